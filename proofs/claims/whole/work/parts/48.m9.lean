/-! Changes of words; the collection; over the abstract memory. -/
def AbS (a a2 : Ab) : Prop :=
  (a2.lm = a.lm) ∧
  (a2.eg = a.eg) ∧
  (a2.us = a.us) ∧
  (a2.gb = a.gb) ∧
  (a2.co = a.co) ∧
  (a2.md = a.md) ∧
  (a2.ol = a.ol) ∧
  (a2.th = a.th) ∧
  (a2.kd = a.kd) ∧
  (a2.ln = a.ln) ∧
  (a2.nk = a.nk) ∧
  (a2.nv = a.nv) ∧
  (a2.nt = a.nt) ∧
  (a2.nc = a.nc)
theorem AbS.lm {a a2 : Ab} (hyp : AbS a a2) : a2.lm = a.lm := hyp.1
theorem AbS.eg {a a2 : Ab} (hyp : AbS a a2) : a2.eg = a.eg := hyp.2.1
theorem AbS.us {a a2 : Ab} (hyp : AbS a a2) : a2.us = a.us := hyp.2.2.1
theorem AbS.gb {a a2 : Ab} (hyp : AbS a a2) : a2.gb = a.gb := hyp.2.2.2.1
theorem AbS.co {a a2 : Ab} (hyp : AbS a a2) : a2.co = a.co := hyp.2.2.2.2.1
theorem AbS.md {a a2 : Ab} (hyp : AbS a a2) : a2.md = a.md := hyp.2.2.2.2.2.1
theorem AbS.ol {a a2 : Ab} (hyp : AbS a a2) : a2.ol = a.ol := hyp.2.2.2.2.2.2.1
theorem AbS.th {a a2 : Ab} (hyp : AbS a a2) : a2.th = a.th := hyp.2.2.2.2.2.2.2.1
theorem AbS.kd {a a2 : Ab} (hyp : AbS a a2) : a2.kd = a.kd := hyp.2.2.2.2.2.2.2.2.1
theorem AbS.ln {a a2 : Ab} (hyp : AbS a a2) : a2.ln = a.ln := hyp.2.2.2.2.2.2.2.2.2.1
theorem AbS.nk {a a2 : Ab} (hyp : AbS a a2) : a2.nk = a.nk := hyp.2.2.2.2.2.2.2.2.2.2.1
theorem AbS.nv {a a2 : Ab} (hyp : AbS a a2) : a2.nv = a.nv := hyp.2.2.2.2.2.2.2.2.2.2.2.1
theorem AbS.nt {a a2 : Ab} (hyp : AbS a a2) : a2.nt = a.nt := hyp.2.2.2.2.2.2.2.2.2.2.2.2.1
theorem AbS.nc {a a2 : Ab} (hyp : AbS a a2) : a2.nc = a.nc := hyp.2.2.2.2.2.2.2.2.2.2.2.2.2

theorem AbS.tk {a a2 : Ab} (S : AbS a a2) : a2.tk = a.tk := by
  funext n
  unfold Ab.tk
  rw [S.kd, S.ln, S.nc, S.nk, S.nv]
theorem AbS.ob {a a2 : Ab} (S : AbS a a2) {n : Nat} : obj a2 n ↔ obj a n := by
  unfold obj
  rw [S.md, S.th]
theorem RC_wm {z : Hs} {g : Gh} {o : Go} {a a2 : Ab} {b : Nat → Int64} {f : Nat → Int32} (c : RC z g o a) (S : AbS a a2) (ff : ∀ x, f x = 0 ∨ f x = 1) (hd : ∀ h, hv g h → b (g.st h) = z.abt (g.st h)) (rg : ∀ i, i < 16 → wat (Hs.wm z b f) o i (a2.rg i)) (ob : ∀ n, obj a n → ObR (Hs.wm z b f) g o a2 n) : RC (Hs.wm z b f) g o a2 := by
  refine ⟨⟨c.hi.1.wm ff hd, c.hi.2.1, c.hi.2.2⟩, ?_, ?_, ?_, ?_, ?_, ?_, c.h0, rg, ?_, ?_, ?_⟩
  · rw [S.md]; exact c.md
  · rw [S.co]; exact c.co
  · rw [S.gb]; exact c.gb
  · rw [S.eg]; exact c.al
  · rw [S.lm]; exact c.lm
  · rw [S.us]; exact c.e
  · intro n hn; exact ob n (S.ob.mp hn)
  · intro h m
    rcases c.ow h m with e | ⟨e1, e2⟩
    · exact Or.inl e
    · refine Or.inr ⟨S.ob.mpr e1, ?_⟩
      rw [S.kd]; exact e2
  · intro Q
    rw [S.tk, S.th, S.md, S.ol]
    exact c.sum Q
theorem RC.lt {z : Hs} {g : Gh} {o : Go} {a : Ab} (c : RC z g o a) {n : Nat} (hn : obj a n) : 17 ≤ g.st (o.ho n) := (Til_mem c.i.til (c.ob n hn).m).1
theorem RC.ltt {z : Hs} {g : Gh} {o : Go} {a : Ab} (c : RC z g o a) {n : Nat} (hn : obj a n) (k : a.kd n = 4) : 17 ≤ g.st (o.ta n) := (Til_mem c.i.til ((c.ob n hn).mp k).2.m).1
theorem RC_reg {z : Hs} {g : Gh} {o : Go} {a : Ab} {i : Nat} {w : Wrd} (c : RC z g o a) (A : AI a) (hi : i < 16) : RC (Hs.wm z (vp_updL z.abt i (bW o.ho w)) (upd z.arf i (fW w))) g o (a.s_rg (updN a.rg i w)) := by
  have hw : wd g i := Or.inl hi
  have ne := (c.i.wd_ne hw).2.2
  have un : ∀ x, x ≠ i → vp_updL z.abt i (bW o.ho w) x = z.abt x ∧ upd z.arf i (fW w) x = z.arf x := fun x hx => ⟨if_neg hx, if_neg hx⟩
  refine RC_wm c ⟨rfl, rfl, rfl, rfl, rfl, rfl, rfl, rfl, rfl, rfl, rfl, rfl, rfl, rfl⟩ ?_ ?_ ?_ ?_
  · intro x
    by_cases hx : x = i
    · subst hx
      rw [show upd z.arf x (fW w) x = fW w from if_pos rfl]
      cases w with
      | inl v => exact Or.inl rfl
      | inr p => exact Or.inr rfl
    · rw [(un x hx).2]; exact c.i.fl x
  · intro h v; exact (un _ (ne h v)).1
  · intro j hj
    by_cases hx : j = i
    · subst hx
      show upd z.arf j (fW w) j = fW (updN a.rg j w j) ∧ vp_updL z.abt j (bW o.ho w) j = bW o.ho (updN a.rg j w j)
      rw [updN_s]
      exact ⟨if_pos rfl, if_pos rfl⟩
    · show upd z.arf i (fW w) j = fW (updN a.rg i w j) ∧ vp_updL z.abt i (bW o.ho w) j = bW o.ho (updN a.rg i w j)
      rw [updN_o _ _ hx, (un j hx).1, (un j hx).2]
      exact c.rg j hj
  · intro n hn
    have ob := c.ob n hn
    have h1 := c.lt hn
    refine ObR_s ob (A.ob n hn) (AbE.refl a n) (fun _ _ => rfl) hn.2.1 rfl ob.ow (fun k => (ob.mp k).2.ow) ⟨ob.m, rfl, rfl, rfl, rfl, fun j _ _ => un _ (by omega)⟩ ?_
    intro k
    have h2 := c.ltt hn k
    exact ⟨(ob.mp k).2.m, rfl, rfl, rfl, rfl, fun j _ _ => un _ (by omega)⟩
theorem RC_blk {z : Hs} {g : Gh} {o : Go} {a a2 : Ab} {b : Nat → Int64} {f : Nat → Int32} {n0 : Nat} (c : RC z g o a) (A : AI a) (S : AbS a a2) (rg : a2.rg = a.rg) (hn0 : obj a n0) (E : ∀ n, n ≠ n0 → AbE a a2 n) (ff : ∀ x, f x = 0 ∨ f x = 1)
    (un : ∀ x, (∀ j, 1 ≤ j → j < g.sz (o.ho n0) → x ≠ g.st (o.ho n0) + j) → (a.kd n0 = 4 → ∀ j, 1 ≤ j → j < g.sz (o.ta n0) → x ≠ g.st (o.ta n0) + j) → b x = z.abt x ∧ f x = z.arf x) (ob0 : ObR (Hs.wm z b f) g o a2 n0) : RC (Hs.wm z b f) g o a2 := by
  have ob := c.ob n0 hn0
  have l1 := c.lt hn0
  have key : ∀ h, h ∈ g.hs → o.ow h ≠ n0 → ∀ j, j < g.sz h → b (g.st h + j) = z.abt (g.st h + j) ∧ f (g.st h + j) = z.arf (g.st h + j) := by
    intro h m hw j hj
    refine un _ ?_ ?_
    · intro l _ hl e
      have := (c.i.adr m ob.m hj hl e).1
      rw [this] at hw
      exact hw ob.ow
    · intro k l _ hl e
      have T := (ob.mp k).2
      have := (c.i.adr m T.m hj hl e).1
      rw [this] at hw
      exact hw T.ow
  refine RC_wm c S ff ?_ ?_ ?_
  · intro h v
    refine (un _ ?_ ?_).1
    · intro j h1 h2 e
      exact (c.i.wd_ne (a := g.st (o.ho n0) + j) (Or.inr ⟨_, ob.m, by omega, by omega⟩)).2.2 h v e
    · intro k j h1 h2 e
      exact (c.i.wd_ne (a := g.st (o.ta n0) + j) (Or.inr ⟨_, (ob.mp k).2.m, by omega, by omega⟩)).2.2 h v e
  · intro i hi
    have := un i (fun j _ _ => by omega) (fun k j _ _ => by have := c.ltt hn0 k; omega)
    rw [rg]
    exact ⟨this.2.trans (c.rg i hi).1, this.1.trans (c.rg i hi).2⟩
  · intro n hn
    by_cases hnn : n = n0
    · rw [hnn]; exact ob0
    · have obn := c.ob n hn
      refine ObR_s obn (A.ob n hn) (E n hnn) (fun _ _ => rfl) hn.2.1 rfl obn.ow (fun k => (obn.mp k).2.ow) ⟨obn.m, rfl, rfl, rfl, rfl, fun j _ hj => key _ obn.m (by rw [obn.ow]; exact hnn) j hj⟩ ?_
      intro k
      have T := (obn.mp k).2
      exact ⟨T.m, rfl, rfl, rfl, rfl, fun j _ hj => key _ T.m (by rw [T.ow]; exact hnn) j hj⟩
def sucA (a : Ab) (n m : Nat) : Prop := m ≠ 0 ∧ ((a.kd n = 2 ∧ ∃ i, i < a.ln n ∧ ∃ p, a.wo n i = .inr (m, p)) ∨ (a.kd n = 4 ∧ ∃ e, e ∈ ens (a.sl n) ∧ ∃ i, i < a.nk n + a.nv n ∧ ∃ p, e.2 i = .inr (m, p)))
def rootA (a : Ab) (m : Nat) : Prop := m ≠ 0 ∧ ∃ i, i < 16 ∧ ∃ p, a.rg i = .inr (m, p)
def reaA (a : Ab) (m : Nat) : Prop := ∀ P : Nat → Prop, (∀ m, rootA a m → P m) → (∀ n m, P n → sucA a n m → P m) → P m
theorem rfs0 {z : Hs} {x h : Nat} (h1 : z.arf x = 1) (h2 : z.abt x = Int64.ofNat (h * 8192)) : rfs z x h := ⟨h1, 0, by omega, by rw [Nat.add_zero]; exact h2⟩
theorem rfs_w {z : Hs} {g : Gh} {o : Go} {a : Ab} (c : RC z g o a) {x k : Nat} {w : Wrd} (h : wat z o x w) (ok : okW a w) (r : rfs z x k) (k0 : k ≠ 0) (k1 : k < 262144) : ∃ p, w = .inr p ∧ obj a p.1 ∧ p.1 ≠ 0 ∧ k = o.ho p.1 := by
  have hk := c.hw ok
  cases w with
  | inl v =>
    have h1 : z.arf x = 0 := h.1
    rw [r.1] at h1
    exact absurd h1 (by decide)
  | inr p =>
    have e1 : hW o (.inr p) = o.ho p.1 := rfl
    have e3 : pW (.inr p) = p.2 := rfl
    rw [e1, e3] at hk
    have r2 : rfs z x (o.ho p.1) := ⟨h.1, p.2, by omega, h.2⟩
    have e := rfs_u k1 (by omega) r r2
    rcases ok with ⟨q1, q2⟩ | ⟨q1, q2, q3⟩
    · rw [e, q1, c.h0] at k0
      exact absurd rfl k0
    · exact ⟨p, rfl, q1, by have := q1.1; omega, e⟩
theorem rfs_of {z : Hs} {g : Gh} {o : Go} {a : Ab} (c : RC z g o a) {x m p : Nat} (h : wat z o x (.inr (m, p))) (ok : okW a (.inr (m, p))) (m0 : m ≠ 0) : rfs z x (o.ho m) ∧ obj a m ∧ o.ho m ≠ 0 ∧ o.ho m < 262144 := by
  have hk := c.hw ok
  have e1 : hW o (.inr (m, p)) = o.ho m := rfl
  have e3 : pW (.inr (m, p)) = p := rfl
  rw [e1, e3] at hk
  rcases ok with ⟨q1, q2⟩ | ⟨q1, q2, q3⟩
  · exact absurd q1 m0
  · have q1' : obj a m := q1
    refine ⟨⟨h.1, p, by omega, h.2⟩, q1', ?_, by omega⟩
    intro e
    have := c.i.rg _ (List.mem_append_left _ (c.ob m q1').m)
    omega
theorem ens_get {l : List Slo} {e : Nat × (Nat → Wrd)} (h : e ∈ ens l) : ∃ j, j < l.length ∧ l[j]? = some (some e) := by
  unfold ens at h
  rw [List.mem_filterMap] at h
  obtain ⟨s, hs, e1⟩ := h
  have : s = some e := e1
  subst this
  obtain ⟨j, hj, e2⟩ := List.getElem_of_mem hs
  exact ⟨j, hj, by rw [List.getElem?_eq_getElem hj, e2]⟩
theorem AI.rw {a : Ab} (A : AI a) {n : Nat} (h : obj a n) (k : a.kd n = 2) : okR a n := by
  rcases (A.ob n h).2 with c | c | c
  · exact c.2
  · omega
  · omega
theorem AI.tx {a : Ab} (A : AI a) {n : Nat} (h : obj a n) (k : a.kd n = 3) : okT a n := by
  rcases (A.ob n h).2 with c | c | c
  · omega
  · exact c.2
  · omega
theorem AI.mp {a : Ab} (A : AI a) {n : Nat} (h : obj a n) (k : a.kd n = 4) : okM a n := by
  rcases (A.ob n h).2 with c | c | c
  · omega
  · omega
  · exact c.2
theorem rea_fwd {z : Hs} {g : Gh} {o : Go} {a : Ab} (c : RC z g o a) (A : AI a) {h : Nat} (r : reaC z g h) : h ∈ g.hs ∧ obj a (o.ow h) ∧ reaA a (o.ow h) ∧ (h = o.ho (o.ow h) ∨ (a.kd (o.ow h) = 4 ∧ h = o.ta (o.ow h))) := by
  have lift : ∀ m, obj a m → reaA a m → o.ho m ∈ g.hs ∧ obj a (o.ow (o.ho m)) ∧ reaA a (o.ow (o.ho m)) ∧ (o.ho m = o.ho (o.ow (o.ho m)) ∨ (a.kd (o.ow (o.ho m)) = 4 ∧ o.ho m = o.ta (o.ow (o.ho m)))) := by
    intro m hm rm
    have ob := c.ob m hm
    rw [ob.ow]
    exact ⟨ob.m, hm, rm, Or.inl rfl⟩
  refine r (fun h => h ∈ g.hs ∧ obj a (o.ow h) ∧ reaA a (o.ow h) ∧ (h = o.ho (o.ow h) ∨ (a.kd (o.ow h) = 4 ∧ h = o.ta (o.ow h)))) ?_ ?_
  · intro k ⟨k0, k1, i, hi, rf⟩
    obtain ⟨p, e1, e2, e3, e4⟩ := rfs_w c (c.rg i hi) (A.rg i hi) rf k0 k1
    rw [e4]
    exact lift p.1 e2 (fun P h1 h2 => h1 _ ⟨e3, i, hi, p.2, e1⟩)
  · intro h k ⟨m, on, rn, hh⟩ ⟨k3, k0, k1, i, hi, rf⟩
    generalize o.ow h = n at on rn hh
    have ob := c.ob n on
    have next : ∀ p : Nat × Nat, obj a p.1 → sucA a n p.1 → k = o.ho p.1 → k ∈ g.hs ∧ obj a (o.ow k) ∧ reaA a (o.ow k) ∧ (k = o.ho (o.ow k) ∨ (a.kd (o.ow k) = 4 ∧ k = o.ta (o.ow k))) := by
      intro p e2 e3 e4
      rw [e4]
      exact lift p.1 e2 (fun P h1 h2 => h2 n p.1 (rn P h1 h2) e3)
    rcases hh with rfl | ⟨k4, rfl⟩
    · rw [ob.kd] at k3
      rcases (A.ob n on).2 with ⟨kk, okr⟩ | ⟨kk, _⟩ | ⟨kk, okm⟩
      · have R := ob.rw kk
        rw [R.1] at hi
        obtain ⟨p, e1, e2, e3, e4⟩ := rfs_w c (R.2 i hi) (okr.2 i hi) rf k0 k1
        exact next p e2 ⟨e3, Or.inl ⟨kk, i, hi, p.2, e1⟩⟩ e4
      · exact absurd kk k3
      · obtain ⟨M, T⟩ := ob.mp kk
        rw [M.ln] at hi
        have hi5 : i = 0 ∨ i = 1 ∨ i = 2 ∨ i = 3 ∨ i = 4 := by omega
        rcases hi5 with rfl | rfl | rfl | rfl | rfl
        · have tr := c.i.rg _ (List.mem_append_left _ T.m)
          have hlt := (c.i.hok (Or.inr T.m)).2.2.2.2
          have e := rfs_u k1 (show o.ta n < 262144 by omega) rf (rfs0 M.w0.1 M.w0.2)
          rw [e, T.ow]
          exact ⟨T.m, on, rn, Or.inr ⟨kk, rfl⟩⟩
        · exact absurd (rf.1.symm.trans M.w1.1) (by decide)
        · exact absurd (rf.1.symm.trans M.w2.1) (by decide)
        · exact absurd (rf.1.symm.trans M.w3.1) (by decide)
        · exact absurd (rf.1.symm.trans M.w4.1) (by decide)
    · have okm := A.mp on k4
      obtain ⟨M, T⟩ := ob.mp k4
      rw [T.ln] at hi
      have wp : 0 < 3 + a.nk n + a.nv n := by omega
      have hj : i / (3 + a.nk n + a.nv n) < a.nc n := (Nat.div_lt_iff_lt_mul wp).mpr hi
      have hr := Nat.mod_lt i wp
      have hdm := Nat.div_add_mod i (3 + a.nk n + a.nv n)
      rw [Nat.mul_comm] at hdm
      generalize i / (3 + a.nk n + a.nv n) = j at hj hdm
      generalize i % (3 + a.nk n + a.nv n) = q at hr hdm
      have S := T.sl j hj
      have ea : g.st (o.ta n) + 1 + i = g.st (o.ta n) + 1 + j * (3 + a.nk n + a.nv n) + q := by omega
      rw [ea] at rf
      generalize hs : (a.sl n)[j]? = s at S
      cases s with
      | none => exact absurd (rf.1.symm.trans (S q (by omega))) (by decide)
      | some s =>
        cases s with
        | none => exact absurd (rf.1.symm.trans (S.2 q (by omega))) (by decide)
        | some e =>
          obtain ⟨s1, s2, s3, s4, s5⟩ := S
          have hq : q = 0 ∨ q = 1 ∨ q = 2 ∨ ∃ t, q = 3 + t ∧ t < a.nk n + a.nv n := by
            by_cases q3 : q < 3
            · omega
            · exact Or.inr (Or.inr (Or.inr ⟨q - 3, by omega, by omega⟩))
          rcases hq with rfl | rfl | rfl | ⟨t, rfl, ht⟩
          · exact absurd (rf.1.symm.trans s1) (by decide)
          · exact absurd (rf.1.symm.trans s3) (by decide)
          · exact absurd (rf.1.symm.trans s4) (by decide)
          · rw [← Nat.add_assoc] at rf
            have em := ens_mem hs
            obtain ⟨p, e1, e2, e3, e4⟩ := rfs_w c (s5 t ht) (okm.wd e em t ht) rf k0 k1
            exact next p e2 ⟨e3, Or.inr ⟨k4, e, em, t, ht, p.2, e1⟩⟩ e4
theorem rea_bwd {z : Hs} {g : Gh} {o : Go} {a : Ab} (c : RC z g o a) (A : AI a) {n : Nat} (r : reaA a n) : obj a n ∧ reaC z g (o.ho n) ∧ (a.kd n = 4 → reaC z g (o.ta n)) := by
  have lift : ∀ m, obj a m → reaC z g (o.ho m) → obj a m ∧ reaC z g (o.ho m) ∧ (a.kd m = 4 → reaC z g (o.ta m)) := by
    intro m hm rm
    refine ⟨hm, rm, ?_⟩
    intro k4 P h1 h2
    have ob := c.ob m hm
    obtain ⟨M, T⟩ := ob.mp k4
    have tr := c.i.rg _ (List.mem_append_left _ T.m)
    have hlt := (c.i.hok (Or.inr T.m)).2.2.2.2
    refine h2 _ _ (rm P h1 h2) ⟨by rw [ob.kd, k4]; omega, by omega, by omega, 0, by rw [M.ln]; omega, rfs0 M.w0.1 M.w0.2⟩
  refine r (fun n => obj a n ∧ reaC z g (o.ho n) ∧ (a.kd n = 4 → reaC z g (o.ta n))) ?_ ?_
  · intro m ⟨m0, i, hi, p, e⟩
    have w := c.rg i hi
    have ok := A.rg i hi
    rw [e] at w ok
    obtain ⟨f1, f2, f3, f4⟩ := rfs_of c w ok m0
    exact lift m f2 (fun P h1 h2 => h1 _ ⟨f3, f4, i, hi, f1⟩)
  · intro n m ⟨on, rn, rt⟩ ⟨m0, s⟩
    have ob := c.ob n on
    rcases s with ⟨k2, i, hi, p, e⟩ | ⟨k4, en, em, i, hi, p, e⟩
    · have R := ob.rw k2
      have w := R.2 i hi
      have ok := (A.rw on k2).2 i hi
      rw [e] at w ok
      obtain ⟨f1, f2, f3, f4⟩ := rfs_of c w ok m0
      exact lift m f2 (fun P h1 h2 => h2 _ _ (rn P h1 h2) ⟨by rw [ob.kd, k2]; omega, f3, f4, i, by rw [R.1]; exact hi, f1⟩)
    · obtain ⟨M, T⟩ := ob.mp k4
      have okm := A.mp on k4
      obtain ⟨j, hj, ej⟩ := ens_get em
      have hjc : j < a.nc n := by have := okm.sl; omega
      have S := T.sl j hjc
      rw [ej] at S
      have w := S.2.2.2.2 i hi
      have ok := okm.wd en em i hi
      rw [e] at w ok
      obtain ⟨f1, f2, f3, f4⟩ := rfs_of c w ok m0
      have hjk : j * (3 + a.nk n + a.nv n) + (3 + a.nk n + a.nv n) ≤ a.nc n * (3 + a.nk n + a.nv n) := by
        rw [← Nat.succ_mul]
        exact Nat.mul_le_mul_right _ hjc
      refine lift m f2 (fun P h1 h2 => h2 _ _ (rt k4 P h1 h2) ⟨by rw [T.kd]; omega, f3, f4, j * (3 + a.nk n + a.nv n) + 3 + i, by rw [T.ln]; omega, ?_⟩)
      rw [← Nat.add_assoc, ← Nat.add_assoc]
      exact f1
noncomputable def thR (a : Ab) (n : Nat) : Bool := @decide (obj a n ∧ reaA a n) (Classical.propDecidable _)
theorem thR_iff {a : Ab} {n : Nat} : thR a n = true ↔ obj a n ∧ reaA a n := by
  unfold thR
  rw [@decide_eq_true_eq _ (Classical.propDecidable _)]
noncomputable def collA (a : Ab) : Ab :=
  (a.lm, a.eg, sumQ a.tk (thR a) a.md, a.gb + (a.us - sumQ a.tk (thR a) a.md), a.co + 1, a.md, 0, a.tn, a.rg, thR a, a.kd, a.ln, a.fz, a.wo, a.bs, a.nk, a.nv, a.nt, a.nc, a.no, a.sl, a.el.filter (fun t => thR a t.1))
theorem sumQ_congr {f : Nat → Nat} {P Q : Nat → Bool} : ∀ {m : Nat}, (∀ n, 1 ≤ n → n ≤ m → P n = Q n) → sumQ f P m = sumQ f Q m := by
  intro m
  induction m with
  | zero => intro _; rfl
  | succ m ih =>
    intro h
    unfold sumQ
    rw [ih (fun n h1 h2 => h n h1 (by omega)), h (m + 1) (by omega) (Nat.le_refl _)]
theorem sumQ_le {f : Nat → Nat} {P Q : Nat → Bool} : ∀ {m : Nat}, (∀ n, 1 ≤ n → n ≤ m → P n = true → Q n = true) → sumQ f P m ≤ sumQ f Q m := by
  intro m
  induction m with
  | zero => intro _; exact Nat.le_refl _
  | succ m ih =>
    intro h
    unfold sumQ
    have h1 := ih (fun n h1 h2 => h n h1 (by omega))
    have h2 := h (m + 1) (by omega) (Nat.le_refl _)
    by_cases hp : P (m + 1) = true
    · rw [if_pos hp, if_pos (h2 hp)]; omega
    · rw [if_neg hp]; omega
theorem sum_flt (R : Nat → Bool) (f : Nat → Nat) : ∀ l : List Nat, ((l.filter R).map f).sum = (l.map (fun h => if R h = true then f h else 0)).sum := by
  intro l
  induction l with
  | nil => rfl
  | cons x t ih =>
    by_cases hx : R x = true
    · rw [List.filter_cons_of_pos hx, List.map_cons, List.map_cons, List.sum_cons, List.sum_cons, ih, if_pos hx]
    · rw [List.filter_cons_of_neg hx, List.map_cons, List.sum_cons, ih, if_neg hx, Nat.zero_add]
theorem map_sum_congr {f f' : Nat → Nat} : ∀ {l : List Nat}, (∀ h, h ∈ l → f h = f' h) → (l.map f).sum = (l.map f').sum := by
  intro l
  induction l with
  | nil => intro _; rfl
  | cons x t ih =>
    intro h
    rw [List.map_cons, List.map_cons, List.sum_cons, List.sum_cons, h x (List.mem_cons_self ..), ih (fun k m => h k (List.mem_cons_of_mem _ m))]
theorem RC_okw {z : Hs} {g : Gh} {o : Go} {a : Ab} (c : RC z g o a) (A : AI a) : OKW z g := by
  have key : ∀ x w, wat z o x w → okW a w → okr z g x := by
    intro x w h ok
    have hk := c.hw ok
    cases w with
    | inl v => exact Or.inl h.1
    | inr p => exact Or.inr ⟨o.ho p.1, hk.1, h.1, p.2, by have := hk.2.2.1; have e3 : pW (.inr p) = p.2 := rfl; omega, h.2⟩
  refine ⟨fun i hi => key i _ (c.rg i hi) (A.rg i hi), ?_⟩
  intro h m r k3 i hi
  obtain ⟨_, on, _, hh⟩ := rea_fwd c A r
  generalize o.ow h = n at on hh
  have ob := c.ob n on
  rcases hh with rfl | ⟨k4, rfl⟩
  · rw [ob.kd] at k3
    rcases (A.ob n on).2 with ⟨kk, okr⟩ | ⟨kk, _⟩ | ⟨kk, okm⟩
    · have R := ob.rw kk
      rw [R.1] at hi
      exact key _ _ (R.2 i hi) (okr.2 i hi)
    · exact absurd kk k3
    · obtain ⟨M, T⟩ := ob.mp kk
      rw [M.ln] at hi
      have hi5 : i = 0 ∨ i = 1 ∨ i = 2 ∨ i = 3 ∨ i = 4 := by omega
      rcases hi5 with rfl | rfl | rfl | rfl | rfl
      · exact Or.inr ⟨o.ta n, Or.inr T.m, rfs0 M.w0.1 M.w0.2⟩
      · exact Or.inl M.w1.1
      · exact Or.inl M.w2.1
      · exact Or.inl M.w3.1
      · exact Or.inl M.w4.1
  · have okm := A.mp on k4
    obtain ⟨M, T⟩ := ob.mp k4
    rw [T.ln] at hi
    have wp : 0 < 3 + a.nk n + a.nv n := by omega
    have hj : i / (3 + a.nk n + a.nv n) < a.nc n := (Nat.div_lt_iff_lt_mul wp).mpr hi
    have hr := Nat.mod_lt i wp
    have hdm := Nat.div_add_mod i (3 + a.nk n + a.nv n)
    rw [Nat.mul_comm] at hdm
    generalize i / (3 + a.nk n + a.nv n) = j at hj hdm
    generalize i % (3 + a.nk n + a.nv n) = q at hr hdm
    have S := T.sl j hj
    have ea : g.st (o.ta n) + 1 + i = g.st (o.ta n) + 1 + j * (3 + a.nk n + a.nv n) + q := by omega
    rw [ea]
    generalize hs : (a.sl n)[j]? = s at S
    cases s with
    | none => exact Or.inl (S q (by omega))
    | some s =>
      cases s with
      | none => exact Or.inl (S.2 q (by omega))
      | some e =>
        obtain ⟨s1, s2, s3, s4, s5⟩ := S
        have hq : q = 0 ∨ q = 1 ∨ q = 2 ∨ ∃ t, q = 3 + t ∧ t < a.nk n + a.nv n := by
          by_cases q3 : q < 3
          · omega
          · exact Or.inr (Or.inr (Or.inr ⟨q - 3, by omega, by omega⟩))
        rcases hq with rfl | rfl | rfl | ⟨t, rfl, ht⟩
        · exact Or.inl s1
        · exact Or.inl s3
        · exact Or.inl s4
        · rw [← Nat.add_assoc]
          exact key _ _ (s5 t ht) (okm.wd e (ens_mem hs) t ht)
/-- the class collects as the abstract memory does -/
theorem RC_col {z : Hs} {g : Gh} {o : Go} {a : Ab} (c : RC z g o a) (A : AI a) : ∃ z2 g2, hp_collection z = some (z2, Int32.ofNat (a.us - (collA a).us)) ∧ RC z2 g2 o (collA a) ∧ z2.nbt = z.nbt ∧ z2.nst = z.nst ∧ g2.lm = g.lm := by
  obtain ⟨z2, g2, e, C⟩ := col_e c.i c.hi.2.1 (RC_okw c A)
  obtain ⟨kd, fr, ln, nu, lm⟩ := C.kd
  have szE : g2.sz = g.sz := by funext h; unfold Gh.sz; rw [kd, ln]
  obtain ⟨R, hR1, hR2⟩ := C.hf
  have rea : ∀ h, h ∈ g.hs → (R h = true ↔ (o.ow h ≠ 0 ∧ thR a (o.ow h) = true)) := by
    intro h m
    rw [hR2 h m, thR_iff]
    constructor
    · intro r
      have f := rea_fwd c A r
      exact ⟨by have := f.2.1.1; omega, f.2.1, f.2.2.1⟩
    · intro ⟨h1, h2, h3⟩
      have b := rea_bwd c A h3
      rcases c.ow h m with q | ⟨q1, q2⟩
      · exact absurd q h1
      · rcases q2 with q2 | ⟨q2, q3⟩
        · rw [q2]; exact b.2.1
        · rw [q3]; exact b.2.2 q2
  have sums : ∀ Q : Nat → Bool, (g2.hs.map (fun h => if Q (o.ow h) = true then g2.sz h else 0)).sum = sumQ a.tk (fun n => thR a n && Q n) a.md := by
    intro Q
    rw [hR1, szE, sum_flt]
    have e1 := c.sum (fun n => decide (n ≠ 0) && (thR a n && Q n))
    have e2 : (g.hs.map (fun h => if R h = true then (if Q (o.ow h) = true then g.sz h else 0) else 0)).sum = (g.hs.map (fun h => if (decide (o.ow h ≠ 0) && (thR a (o.ow h) && Q (o.ow h))) = true then g.sz h else 0)).sum := by
      refine map_sum_congr ?_
      intro h m
      have := rea h m
      by_cases hr : R h = true
      · have t := this.mp hr
        rw [if_pos hr]
        simp [t.1, t.2]
      · rw [if_neg hr, if_neg]
        intro q
        rw [Bool.and_eq_true, Bool.and_eq_true, decide_eq_true_eq] at q
        exact hr (this.mpr ⟨q.1, q.2.1⟩)
    rw [e2, e1, if_neg (by simp), Nat.add_zero]
    refine sumQ_congr ?_
    intro n h1 h2
    have h3 : decide (n ≠ 0) = true := by rw [decide_eq_true_eq]; omega
    rw [h3, Bool.true_and]
    by_cases ht : thR a n = true
    · rw [ht, (thR_iff.mp ht).1.2.2]
      rfl
    · rw [Bool.eq_false_iff.mpr ht]
      simp
  have e2 : g2.e = 17 + sumQ a.tk (thR a) a.md := by
    have t := Til_sum C.i.til
    have s := sums (fun _ => true)
    rw [t]
    have s1 : (g2.hs.map (fun h => if (fun _ : Nat => true) (o.ow h) = true then g2.sz h else 0)) = g2.hs.map g2.sz := by
      refine List.map_congr_left ?_
      intro h _
      exact if_pos rfl
    rw [s1] at s
    rw [s]
    congr 1
    refine sumQ_congr ?_
    intro n _ _
    exact Bool.and_true _
  have hle := C.le
  have ce := c.e
  have us2 : (collA a).us = sumQ a.tk (thR a) a.md := rfl
  refine ⟨z2, g2, ?_, ⟨⟨C.i, C.rc, by rw [C.nb.1, lm]; exact c.hi.2.2⟩, ?_, ?_, ?_, ?_, ?_, e2, c.h0, ?_, ?_, ?_, ?_⟩, C.nb.1, C.nb.2, lm⟩
  · rw [e, us2]
    congr 3
    omega
  · rw [C.md]; exact c.md
  · rw [C.co, c.co]; rfl
  · rw [C.gb, c.gb, q_add]
    show Int32.ofNat _ = Int32.ofNat (a.gb + (a.us - sumQ a.tk (thR a) a.md))
    congr 1
    omega
  · rw [C.al]; exact c.al
  · rw [lm]; exact c.lm
  · intro i hi
    have := C.rg i hi
    exact ⟨this.2.trans (c.rg i hi).1, this.1.trans (c.rg i hi).2⟩
  · intro n hn
    obtain ⟨on, rn⟩ := thR_iff.mp hn.2.2
    have ob := c.ob n on
    have b := rea_bwd c A rn
    have bk : ∀ h, h ∈ g.hs → reaC z g h → BkE z z2 g g2 h := by
      intro h m r
      have m2 := (C.hs h).mpr ⟨m, r⟩
      exact ⟨m2, by rw [kd], by rw [ln], by rw [fr], by rw [nu], fun j _ hj => C.wd h m2 j hj⟩
    exact ObR_s ob (A.ob n on) ⟨rfl, rfl, rfl, rfl, rfl, rfl, rfl, rfl, rfl, rfl, rfl⟩ (fun _ _ => rfl) on.2.1 rfl ob.ow (fun k => (ob.mp k).2.ow) (bk _ ob.m b.2.1) (fun k => bk _ (ob.mp k).2.m (b.2.2 k))
  · intro h m
    have hm := (C.hs h).mp m
    have f := rea_fwd c A hm.2
    exact Or.inr ⟨⟨f.2.1.1, f.2.1.2.1, thR_iff.mpr ⟨f.2.1, f.2.2.1⟩⟩, f.2.2.2⟩
  · intro Q
    rw [sums Q]
    show _ = sumQ a.tk (fun n => thR a n && Q n) a.md + (if Q 0 = true then 0 else 0)
    split <;> rfl
