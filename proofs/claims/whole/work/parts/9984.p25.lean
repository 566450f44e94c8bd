/-! A new table, first nobody's. -/
theorem room_ob {a : Ab} {T i n p : Nat} (hi : i < 16) (e : a.rg i = .inr (n, p)) (on : obj a n) : obj (roomA a T) n ∧ AbE a (roomA a T) n := by
  unfold roomA
  split
  · exact ⟨on, AbE.refl a n⟩
  · refine ⟨⟨on.1, on.2.1, ?_⟩, ⟨rfl, rfl, rfl, rfl, rfl, rfl, rfl, rfl, rfl, rfl, rfl⟩⟩
    exact thR_iff.mpr ⟨on, fun P h1 _ => h1 n ⟨by have := on.1; omega, i, hi, p, e⟩⟩
theorem room_rg {a : Ab} {T : Nat} : (roomA a T).rg = a.rg := by
  unfold roomA
  split <;> rfl
theorem room_kd {a : Ab} {T : Nat} : (roomA a T).kd = a.kd := by
  unfold roomA
  split <;> rfl
def orpA (a : Ab) (T : Nat) : Ab :=
  (a.lm, a.eg, a.us + T, a.gb, a.co, a.md, a.ol + T, a.tn, a.rg, a.th, a.kd, a.ln, a.fz, a.wo, a.bs, a.nk, a.nv, a.nt, a.nc, a.no, a.sl, a.el)
theorem RC_orph {z z2 : Hs} {g : Gh} {o : Go} {a : Ab} {h ln c1 : Nat} {fl : List Nat} {lh : Nat} (c : RC z g o a) (A : AI a) (P : Pl z z2 g h 5 ln 0 c1 fl lh) : RC z2 (gnew g h 5 ln 0 fl lh) (o.s_ow (updN o.ow h 0)) (orpA a (1 + ln)) := by
  obtain ⟨g2, hg2⟩ : ∃ g2, g2 = gnew g h 5 ln 0 fl lh := ⟨_, rfl⟩
  have Pi := P.i
  rw [← hg2] at Pi ⊢
  have e2 : g2.e = g.e + (1 + ln) := by rw [hg2]; rfl
  have l2 : g2.lm = g.lm := by rw [hg2]; rfl
  have hs2 : g2.hs = g.hs ++ [h] := by rw [hg2]; rfl
  have st2 : g2.st = updN g.st h g.e := by rw [hg2]; rfl
  have kd2 : g2.kd = updN g.kd h 5 := by rw [hg2]; rfl
  have ln2 : g2.ln = updN g.ln h ln := by rw [hg2]; rfl
  have fr2 : g2.fr = updN g.fr h 0 := by rw [hg2]; rfl
  have nu2 : g2.nu = updN g.nu h 0 := by rw [hg2]; rfl
  have hne : ∀ x, x ∈ g.hs → x ≠ h := fun x hx e => P.nh (e ▸ hx)
  have hlo := Til_le c.i.til
  have sz2 : ∀ x, x ∈ g.hs → g2.sz x = g.sz x := by
    intro x hx
    unfold Gh.sz
    rw [kd2, ln2, updN_o _ _ (hne x hx), updN_o _ _ (hne x hx)]
  have bk : ∀ x, x ∈ g.hs → BkE z z2 g g2 x := by
    intro x hx
    have n := hne x hx
    have tm := Til_mem c.i.til hx
    refine ⟨by rw [hs2]; exact List.mem_append_left _ hx, by rw [kd2, updN_o _ _ n], by rw [ln2, updN_o _ _ n], by rw [fr2, updN_o _ _ n], by rw [nu2, updN_o _ _ n], ?_⟩
    intro j h1 h2
    rw [st2, updN_o _ _ n]
    exact P.lo _ (by omega)
  have how : ∀ x, x ∈ g.hs → (o.s_ow (updN o.ow h 0)).ow x = o.ow x := fun x hx => updN_o _ _ (hne x hx)
  refine ⟨Pi, ?_, ?_, ?_, ?_, ?_, ?_, c.h0, ?_, ?_, ?_, ?_⟩
  · rw [P.md, if_pos rfl]; exact c.md
  · rw [P.sc.1]; exact c.co
  · rw [P.sc.2.1]; exact c.gb
  · rw [P.sc.2.2]; exact c.al
  · rw [l2]; exact c.lm
  · rw [e2, c.e]
    show 17 + a.us + (1 + ln) = 17 + (a.us + (1 + ln))
    omega
  · intro i hi
    have := P.lo i (by omega)
    exact ⟨this.2.trans (c.rg i hi).1, this.1.trans (c.rg i hi).2⟩
  · intro n hn
    have on : obj a n := hn
    have ob := c.ob n on
    exact ObR_s ob (A.ob n on) ⟨rfl, rfl, rfl, rfl, rfl, rfl, rfl, rfl, rfl, rfl, rfl⟩ (fun _ _ => rfl) on.2.1 rfl (by rw [how _ ob.m]; exact ob.ow) (fun k => by rw [how _ (ob.mp k).2.m]; exact (ob.mp k).2.ow) (bk _ ob.m) (fun k => bk _ (ob.mp k).2.m)
  · intro x mx
    rw [hs2] at mx
    rcases List.mem_append.mp mx with mx | mx
    · rw [how x mx]
      exact c.ow x mx
    · rw [List.mem_singleton] at mx
      subst mx
      exact Or.inl (updN_s _ _ _)
  · intro Q
    rw [hs2, List.map_append, List.sum_append]
    have e1 : g.hs.map (fun x => if Q ((o.s_ow (updN o.ow h 0)).ow x) = true then g2.sz x else 0) = g.hs.map (fun x => if Q (o.ow x) = true then g.sz x else 0) := by
      refine List.map_congr_left ?_
      intro x hx
      rw [how x hx, sz2 x hx]
    have szh : g2.sz h = 1 + ln := by
      unfold Gh.sz
      rw [kd2, ln2, updN_s, updN_s]
      rfl
    have owh : (o.s_ow (updN o.ow h 0)).ow h = 0 := updN_s _ _ _
    rw [e1, c.sum Q, List.map_cons, List.map_nil, List.sum_cons, List.sum_nil, owh, szh]
    show sumQ a.tk (fun n => a.th n && Q n) a.md + (if Q 0 = true then a.ol else 0) + ((if Q 0 = true then 1 + ln else 0) + 0) = sumQ a.tk (fun n => a.th n && Q n) a.md + (if Q 0 = true then a.ol + (1 + ln) else 0)
    by_cases hq : Q 0 = true
    · rw [if_pos hq, if_pos hq, if_pos hq]; omega
    · rw [if_neg hq, if_neg hq, if_neg hq]
theorem AI_orph {a : Ab} {T : Nat} (A : AI a) (h : a.us + T ≤ a.lm) : AI (orpA a T) := by
  refine ⟨A.lm, A.eg, h, A.md, A.tn, A.rg, A.ob, ?_, A.el, A.en, A.cn⟩
  have := A.sum
  show a.us + T = sumQ a.tk a.th a.md + (a.ol + T)
  omega
/-- nobody's words may be anything -/
theorem RC_orw {z : Hs} {g : Gh} {o : Go} {a : Ab} {t : Nat} {b : Nat → Int64} {f : Nat → Int32} (c : RC z g o a) (A : AI a) (mt : t ∈ g.hs) (ow : o.ow t = 0) (ff : ∀ x, f x = 0 ∨ f x = 1) (un : ∀ x, (∀ j, 1 ≤ j → j < g.sz t → x ≠ g.st t + j) → b x = z.abt x ∧ f x = z.arf x) : RC (Hs.wm z b f) g o a := by
  have key : ∀ h, h ∈ g.hs → h ≠ t → ∀ j, j < g.sz h → b (g.st h + j) = z.abt (g.st h + j) ∧ f (g.st h + j) = z.arf (g.st h + j) := by
    intro h m hw j hj
    refine un _ ?_
    intro l _ hl e
    exact hw (c.i.adr m mt hj hl e).1
  have tm := Til_mem c.i.til mt
  refine RC_wm c ⟨rfl, rfl, rfl, rfl, rfl, rfl, rfl, rfl, rfl, rfl, rfl, rfl, rfl, rfl⟩ ff ?_ ?_ ?_
  · intro h v
    refine (un _ ?_).1
    intro j h1 h2 e
    exact (c.i.wd_ne (a := g.st t + j) (Or.inr ⟨_, mt, by omega, by omega⟩)).2.2 h v e
  · intro i hi
    have := un i (fun j _ _ => by omega)
    exact ⟨this.2.trans (c.rg i hi).1, this.1.trans (c.rg i hi).2⟩
  · intro n hn
    have obn := c.ob n hn
    have n1 := hn.1
    refine ObR_s obn (A.ob n hn) (AbE.refl a n) (fun _ _ => rfl) hn.2.1 rfl obn.ow (fun k => (obn.mp k).2.ow) ⟨obn.m, rfl, rfl, rfl, rfl, fun j _ hj => key _ obn.m (fun e => by have := obn.ow; rw [e, ow] at this; omega) j hj⟩ ?_
    intro k
    have T := (obn.mp k).2
    exact ⟨T.m, rfl, rfl, rfl, rfl, fun j _ hj => key _ T.m (fun e => by have := T.ow; rw [e, ow] at this; omega) j hj⟩
/-- a slot moved -/
theorem SlR_m {z z2 : Hs} {o : Go} {x y k : Nat} {s : Option Slo} (h : SlR z o x k s) (e : ∀ i, i < 3 + k → z2.abt (y + i) = z.abt (x + i) ∧ z2.arf (y + i) = z.arf (x + i)) : SlR z2 o y k s := by
  have e0 := e 0 (by omega)
  rw [Nat.add_zero, Nat.add_zero] at e0
  match s, h with
  | some (some en), h =>
    refine ⟨e0.2.trans h.1, e0.1.trans h.2.1, (e 1 (by omega)).2.trans h.2.2.1, (e 2 (by omega)).2.trans h.2.2.2.1, ?_⟩
    intro i hi
    have := e (3 + i) (by omega)
    rw [← Nat.add_assoc, ← Nat.add_assoc] at this
    have hw := h.2.2.2.2 i hi
    exact ⟨this.2.trans hw.1, this.1.trans hw.2⟩
  | some none, h => exact ⟨e0.1.trans h.1, fun i hi => (e i hi).2.trans (h.2 i hi)⟩
  | none, h => exact fun i hi => (e i hi).2.trans (h i hi)
