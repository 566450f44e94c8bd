/-! Texts that became keys are frozen. -/
def frz (st : Nat → Nat) (L : List Nat) (b : Nat → Int64) : Nat → Int64 := L.foldl (fun b h => vp_updL b (st h) (b (st h) ||| 2097152)) b
def fzl (N : List Nat) (f : Nat → Nat) : Nat → Nat := N.foldl (fun f n => updN f n 1) f
theorem frz_o {st : Nat → Nat} {x : Nat} : ∀ {L : List Nat} {b : Nat → Int64}, (∀ h, h ∈ L → x ≠ st h) → frz st L b x = b x := by
  intro L
  induction L with
  | nil => intro b _; rfl
  | cons h t ih =>
    intro b hx
    have := ih (b := vp_updL b (st h) (b (st h) ||| 2097152)) (fun k hk => hx k (List.mem_cons_of_mem _ hk))
    exact this.trans (if_neg (hx h (List.mem_cons_self ..)))
theorem frz_c {st : Nat → Nat} {x : Nat} : ∀ {L : List Nat} {b b2 : Nat → Int64}, (∀ h, h ∈ L → b (st h) = b2 (st h)) → b x = b2 x → frz st L b x = frz st L b2 x := by
  intro L
  induction L with
  | nil => intro b b2 _ h; exact h
  | cons h t ih =>
    intro b b2 hh hx
    have h0 := hh h (List.mem_cons_self ..)
    have key : ∀ y, b y = b2 y → vp_updL b (st h) (b (st h) ||| 2097152) y = vp_updL b2 (st h) (b2 (st h) ||| 2097152) y := by
      intro y hy
      unfold vp_updL
      by_cases e : y = st h
      · rw [if_pos e, if_pos e, h0]
      · rw [if_neg e, if_neg e, hy]
    exact ih (fun k hk => key _ (hh k (List.mem_cons_of_mem _ hk))) (key x hx)
theorem RC_frz1 {z : Hs} {g : Gh} {o : Go} {a : Ab} {n : Nat} (c : RC z g o a) (A : AI a) (on : obj a n) (k3 : a.kd n = 3) : RC (Hs.wm z (vp_updL z.abt (g.st (o.ho n)) (z.abt (g.st (o.ho n)) ||| 2097152)) z.arf) (g.s_fr (updN g.fr (o.ho n) 1)) o (a.s_fz (updN a.fz n 1)) := by
  have ob := c.ob n on
  have vn : hv g (o.ho n) := Or.inr ob.m
  have hn1 := c.i.rg _ (List.mem_append_left _ ob.m)
  have tm := Til_mem c.i.til ob.m
  have st0 := c.i.h0.1
  have d := c.i.hd _ vn
  have un : ∀ x, x ≠ g.st (o.ho n) → vp_updL z.abt (g.st (o.ho n)) (z.abt (g.st (o.ho n)) ||| 2097152) x = z.abt x := fun x hx => if_neg hx
  have stn : ∀ h, hv g h → h ≠ o.ho n → g.st h ≠ g.st (o.ho n) := by
    intro h v hne e
    rcases v with rfl | m
    · omega
    · have s1 : 0 < g.sz h := by unfold Gh.sz; omega
      have s2 : 0 < g.sz (o.ho n) := by unfold Gh.sz; omega
      exact hne (c.i.adr (j := 0) (l := 0) m ob.m s1 s2 (by omega)).1
  have wdn : ∀ h, h ∈ g.hs → ∀ j, 1 ≤ j → j < g.sz h → g.st h + j ≠ g.st (o.ho n) := by
    intro h m j h1 h2 e
    exact (c.i.wd_ne (a := g.st h + j) (Or.inr ⟨h, m, by omega, by omega⟩)).2.2 _ vn e.symm
  have i2 : HI0 (Hs.wm z (vp_updL z.abt (g.st (o.ho n)) (z.abt (g.st (o.ho n)) ||| 2097152)) z.arf) (g.s_fr (updN g.fr (o.ho n) 1)) := by
    refine ⟨c.i.lm, c.i.lim, c.i.en, c.i.el, c.i.eb, c.i.rb, c.i.bl, c.i.rc, c.i.qu, c.i.sl, c.i.fl, c.i.til, ?_, ⟨c.i.h0.1, c.i.h0.2.1, c.i.h0.2.2.1, c.i.h0.2.2.2.1, ?_⟩, c.i.lh, c.i.ls, c.i.chn, c.i.nd, c.i.rg, c.i.le⟩
    · intro h v
      have v : hv g h := v
      have dh := c.i.hd h v
      by_cases hh : h = o.ho n
      · subst hh
        refine ⟨dh.st, ?_, dh.k1, dh.k5, ?_, dh.l1, dh.n1⟩
        · show vp_updL z.abt (g.st (o.ho n)) (z.abt (g.st (o.ho n)) ||| 2097152) (g.st (o.ho n)) = Int64.ofNat (hdr (g.nu (o.ho n)) (g.ln (o.ho n)) (updN g.fr (o.ho n) 1 (o.ho n)) (g.kd (o.ho n)) (o.ho n))
          rw [updN_s]
          refine (if_pos rfl).trans ?_
          rw [dh.hd]
          exact hdr_frz (c.i.hok vn).2.2.1
        · show updN g.fr (o.ho n) 1 (o.ho n) ≤ 1
          rw [updN_s]
          exact Nat.le_refl _
      · refine ⟨dh.st, ?_, dh.k1, dh.k5, ?_, dh.l1, dh.n1⟩
        · show vp_updL z.abt (g.st (o.ho n)) (z.abt (g.st (o.ho n)) ||| 2097152) (g.st h) = Int64.ofNat (hdr (g.nu h) (g.ln h) (updN g.fr (o.ho n) 1 h) (g.kd h) h)
          rw [updN_o _ _ hh, un _ (stn h v hh)]
          exact dh.hd
        · show updN g.fr (o.ho n) 1 h ≤ 1
          rw [updN_o _ _ hh]
          exact dh.f1
    · show updN g.fr (o.ho n) 1 0 = 0
      rw [updN_o _ _ (by omega)]
      exact c.i.h0.2.2.2.2
  refine ⟨⟨i2, c.hi.2.1, c.hi.2.2⟩, c.md, c.co, c.gb, c.al, c.lm, c.e, c.h0, ?_, ?_, c.ow, c.sum⟩
  · intro i hi
    have := c.rg i hi
    exact ⟨this.1, (un i (by omega)).trans this.2⟩
  · intro k ok
    have ok : obj a k := ok
    have obk := c.ob k ok
    by_cases hk : k = n
    · subst hk
      have TT := obk.tx k3
      have sz : g.sz (o.ho k) = 1 + (a.ln k + 7) / 8 := by unfold Gh.sz; rw [obk.kd, k3, TT.1]; rfl
      refine ⟨obk.m, obk.nu, obk.kd, ?_, obk.ow, fun h => absurd (show a.kd k = 2 from h) (by omega), fun _ => ⟨TT.1, ?_⟩, fun h => absurd (show a.kd k = 4 from h) (by omega)⟩
      · show updN g.fr (o.ho k) 1 (o.ho k) = updN a.fz k 1 k
        rw [updN_s, updN_s]
      · intro i hi
        have hi : i < (a.ln k + 7) / 8 := hi
        exact (un (g.st (o.ho k) + 1 + i) (by omega)).trans (TT.2 i hi)
    · have hne : o.ho k ≠ o.ho n := by
        intro e
        have h1 := obk.nu
        rw [e, ob.nu] at h1
        omega
      refine ObR_s obk (A.ob k ok) ⟨rfl, rfl, updN_o _ _ hk, rfl, rfl, rfl, rfl, rfl, rfl, rfl, rfl⟩ (fun _ _ => rfl) ok.2.1 rfl obk.ow (fun h => (obk.mp h).2.ow) ⟨obk.m, rfl, rfl, updN_o _ _ hne, rfl, fun j h1 h2 => ⟨un _ (wdn _ obk.m j h1 h2), rfl⟩⟩ ?_
      intro h4
      have T := (obk.mp h4).2
      have hne2 : o.ta k ≠ o.ho n := by
        intro e
        have h1 := T.kd
        rw [e, ob.kd] at h1
        omega
      exact ⟨T.m, rfl, rfl, updN_o _ _ hne2, rfl, fun j h1 h2 => ⟨un _ (wdn _ T.m j h1 h2), rfl⟩⟩
theorem AI_frz1 {a : Ab} {n : Nat} (A : AI a) : AI (a.s_fz (updN a.fz n 1)) := by
  refine ⟨A.lm, A.eg, A.us, A.md, A.tn, A.rg, ?_, A.sum, A.el, A.en, A.cn⟩
  intro k ok
  have h := A.ob k ok
  refine ⟨?_, h.2⟩
  show updN a.fz n 1 k ≤ 1
  by_cases hk : k = n
  · subst hk; rw [updN_s]; exact Nat.le_refl _
  · rw [updN_o _ _ hk]; exact h.1
theorem RM_frz1 {m : Ms} {q : Gm} {a : Ab} {n : Nat} (R : RM m q a) (on : obj a n) : RM (Ms.wkp m (upd m.akp n 1)) q (a.s_fz (updN a.fz n 1)) := by
  have hn := on.2.1
  refine ⟨R.s, R.z, R.k, R.rg, R.th, ?_, ?_, ?_, R.sr, R.ws, R.bs, R.e⟩
  · intro k hk
    have hk : a.md < k := hk
    exact (if_neg (show ¬ (k = n) by omega)).trans (R.k0 k hk)
  · intro k
    refine ⟨?_, (R.fl k).2⟩
    show upd m.akp n 1 k = 0 ∨ upd m.akp n 1 k = 1
    unfold upd
    split
    · exact Or.inr rfl
    · exact (R.fl k).1
  · intro k ok
    have h := R.ob k ok
    refine ⟨h.so, h.si, ?_, h.rw, h.tx, h.mp⟩
    show upd m.akp n 1 k = Int32.ofNat (updN a.fz n 1 k)
    by_cases hk : k = n
    · subst hk
      rw [updN_s]
      exact if_pos rfl
    · rw [updN_o _ _ hk]
      exact (if_neg hk).trans h.kp
def fzN (a : Ab) (N : List Nat) : Ab := a.s_fz (fzl N a.fz)
def gfz (g : Gh) (L : List Nat) : Gh := g.s_fr (fzl L g.fr)
theorem RC_frz : ∀ {N : List Nat} {z : Hs} {g : Gh} {o : Go} {a : Ab}, RC z g o a → AI a → (∀ n, n ∈ N → obj a n ∧ a.kd n = 3) → RC (Hs.wm z (frz g.st (N.map o.ho) z.abt) z.arf) (gfz g (N.map o.ho)) o (fzN a N) ∧ AI (fzN a N) := by
  intro N
  induction N with
  | nil => intro z g o a c A _; exact ⟨c, A⟩
  | cons n t ih =>
    intro z g o a c A h
    obtain ⟨on, k3⟩ := h n (List.mem_cons_self ..)
    have := ih (RC_frz1 c A on k3) (AI_frz1 A) (fun k hk => h k (List.mem_cons_of_mem _ hk))
    exact this
theorem RM_frz : ∀ {N : List Nat} {m : Ms} {q : Gm} {a : Ab}, RM m q a → (∀ n, n ∈ N → obj a n) → RM (Ms.wkp m (N.foldl (fun f n => upd f n 1) m.akp)) q (fzN a N) := by
  intro N
  induction N with
  | nil => intro m q a R _; exact R
  | cons n t ih =>
    intro m q a R h
    have := ih (RM_frz1 R (h n (List.mem_cons_self ..))) (fun k hk => h k (List.mem_cons_of_mem _ hk))
    exact this
/-- the texts among key words i, i + 1, ... -/
def kNr (a : Ab) (n : Nat) (kw : Nat → Wrd) (i : Nat) : Nat → List Nat
  | 0 => []
  | k + 1 => (if (a.nt n).testBit i = true ∧ nW (kw i) ≠ 0 then [nW (kw i)] else []) ++ kNr a n kw (i + 1) k
theorem kNr_mem {a : Ab} {n x : Nat} {kw : Nat → Wrd} : ∀ {k i : Nat}, x ∈ kNr a n kw i k → ∃ j, i ≤ j ∧ j < i + k ∧ (a.nt n).testBit j = true ∧ nW (kw j) ≠ 0 ∧ x = nW (kw j) := by
  intro k
  induction k with
  | zero => intro i h; cases h
  | succ k ih =>
    intro i h
    rcases List.mem_append.mp h with h | h
    · by_cases hc : (a.nt n).testBit i = true ∧ nW (kw i) ≠ 0
      · rw [if_pos hc, List.mem_singleton] at h
        exact ⟨i, Nat.le_refl _, by omega, hc.1, hc.2, h⟩
      · rw [if_neg hc] at h
        cases h
    · obtain ⟨j, h1, h2, h3⟩ := ih h
      exact ⟨j, by omega, by omega, h3⟩
