/-! A new object. -/
def tkN (kd ln nk nv : Nat) : Nat := if kd = 2 then ln + 1 else if kd = 3 then (ln + 7) / 8 + 1 else 6 + (8 * (3 + nk + nv) + 1)
def newA (a : Ab) (kd ln : Nat) (nk nv nt : Nat) : Ab :=
  (a.lm, a.eg, a.us + tkN kd ln nk nv, a.gb, a.co, a.md + 1, a.ol, a.tn + 1, a.rg, updN a.th (a.md + 1) true, updN a.kd (a.md + 1) kd, updN a.ln (a.md + 1) ln, updN a.fz (a.md + 1) 0, updN a.wo (a.md + 1) (fun _ => .inl 0), updN a.bs (a.md + 1) (fun _ => 0), updN a.nk (a.md + 1) nk, updN a.nv (a.md + 1) nv, updN a.nt (a.md + 1) nt, updN a.nc (a.md + 1) 8, updN a.no (a.md + 1) 0, updN a.sl (a.md + 1) [], a.el)
theorem newA_tk {a : Ab} {kd ln nk nv nt : Nat} : (newA a kd ln nk nv nt).tk (a.md + 1) = tkN kd ln nk nv := by
  unfold Ab.tk tkN
  show (if updN a.kd (a.md + 1) kd (a.md + 1) = 2 then updN a.ln (a.md + 1) ln (a.md + 1) + 1 else if updN a.kd (a.md + 1) kd (a.md + 1) = 3 then (updN a.ln (a.md + 1) ln (a.md + 1) + 7) / 8 + 1 else 6 + (updN a.nc (a.md + 1) 8 (a.md + 1) * (3 + updN a.nk (a.md + 1) nk (a.md + 1) + updN a.nv (a.md + 1) nv (a.md + 1)) + 1)) = _
  rw [updN_s, updN_s, updN_s, updN_s, updN_s]
theorem newA_us {a : Ab} {kd ln nk nv nt : Nat} : (newA a kd ln nk nv nt).us = a.us + tkN kd ln nk nv := rfl
theorem newA_o {a : Ab} {kd ln nk nv nt n : Nat} (h : n ≤ a.md) : AbE a (newA a kd ln nk nv nt) n ∧ (newA a kd ln nk nv nt).th n = a.th n := by
  have hn : n ≠ a.md + 1 := by omega
  exact ⟨⟨updN_o _ _ hn, updN_o _ _ hn, updN_o _ _ hn, updN_o _ _ hn, updN_o _ _ hn, updN_o _ _ hn, updN_o _ _ hn, updN_o _ _ hn, updN_o _ _ hn, updN_o _ _ hn, updN_o _ _ hn⟩, updN_o _ _ hn⟩
theorem newA_n {a : Ab} {kd ln nk nv nt : Nat} : (newA a kd ln nk nv nt).th (a.md + 1) = true ∧ (newA a kd ln nk nv nt).kd (a.md + 1) = kd ∧ (newA a kd ln nk nv nt).ln (a.md + 1) = ln ∧ (newA a kd ln nk nv nt).fz (a.md + 1) = 0 ∧ (newA a kd ln nk nv nt).wo (a.md + 1) = (fun _ => .inl 0) ∧ (newA a kd ln nk nv nt).bs (a.md + 1) = (fun _ => 0) ∧ (newA a kd ln nk nv nt).nk (a.md + 1) = nk ∧ (newA a kd ln nk nv nt).nv (a.md + 1) = nv ∧ (newA a kd ln nk nv nt).nt (a.md + 1) = nt ∧ (newA a kd ln nk nv nt).nc (a.md + 1) = 8 ∧ (newA a kd ln nk nv nt).no (a.md + 1) = 0 ∧ (newA a kd ln nk nv nt).sl (a.md + 1) = [] :=
  ⟨updN_s _ _ _, updN_s _ _ _, updN_s _ _ _, updN_s _ _ _, updN_s _ _ _, updN_s _ _ _, updN_s _ _ _, updN_s _ _ _, updN_s _ _ _, updN_s _ _ _, updN_s _ _ _, updN_s _ _ _⟩
/-- what is there stays there, unchanged in what words need -/
def AbX (a b : Ab) : Prop := a.md ≤ b.md ∧ ∀ n, n ≤ a.md → b.th n = a.th n ∧ b.kd n = a.kd n ∧ b.ln n = a.ln n
theorem AbX.ob {a b : Ab} (X : AbX a b) {n : Nat} (h : obj a n) : obj b n := ⟨h.1, Nat.le_trans h.2.1 X.1, (X.2 n h.2.1).1.trans h.2.2⟩
theorem okW_x {a b : Ab} (X : AbX a b) {w : Wrd} (h : okW a w) : okW b w := by
  cases w with
  | inl v => exact trivial
  | inr p =>
    rcases h with h | ⟨h1, h2, h3⟩
    · exact Or.inl h
    · refine Or.inr ⟨X.ob h1, h2, ?_⟩
      have := X.2 p.1 h1.2.1
      rw [this.2.1, this.2.2]
      exact h3
theorem isTx_x {a b : Ab} (X : AbX a b) {w : Wrd} (h : isTx a w) (ok : okW a w) : isTx b w := by
  cases w with
  | inl v => exact h
  | inr p =>
    rcases h with h | h
    · exact Or.inl h
    · rcases ok with ok | ⟨ok, _⟩
      · exact Or.inl ok.1
      · exact Or.inr ((X.2 p.1 ok.2.1).2.1.trans h)
theorem okO_x {a b : Ab} (X : AbX a b) (ht : a.tn ≤ b.tn) {n : Nat} (h : okO a n) (hn : n ≤ a.md) (E : AbE a b n) : okO b n := by
  obtain ⟨h1, h2⟩ := h
  refine ⟨by rw [E.fz]; exact h1, ?_⟩
  rw [E.kd]
  rcases h2 with ⟨k, h⟩ | ⟨k, h⟩ | ⟨k, h⟩
  · refine Or.inl ⟨k, ?_⟩
    unfold okR
    rw [E.ln, E.wo]
    exact ⟨h.1, fun i hi => okW_x X (h.2 i hi)⟩
  · refine Or.inr (Or.inl ⟨k, ?_⟩)
    unfold okT
    rw [E.ln, E.bs]
    exact h
  · refine Or.inr (Or.inr ⟨k, ?_⟩)
    refine ⟨by rw [E.ln]; exact h.ln, by rw [E.nk]; exact h.nk, by rw [E.nv]; exact h.nv, by rw [E.nt, E.nk]; exact h.nt, by rw [E.nc]; exact h.nc, by rw [E.nc, E.nk, E.nv]; exact h.tb, by rw [E.sl, E.nc]; exact h.sl, by rw [E.no]; have := h.no; omega, by rw [E.sl]; exact h.srt, by rw [E.sl, E.no]; exact h.lt, ?_, by rw [E.sl, E.nk, E.nv]; exact h.mk, ?_⟩
    · rw [E.sl, E.nk, E.nv]
      exact fun e he i hi => okW_x X (h.wd e he i hi)
    · rw [E.sl, E.nk, E.nt]
      exact fun e he i hi ht => isTx_x X (h.tx e he i hi ht) (h.wd e he i (by omega))
theorem sumQ_f {f f' : Nat → Nat} {P : Nat → Bool} : ∀ {m : Nat}, (∀ n, 1 ≤ n → n ≤ m → f n = f' n) → sumQ f P m = sumQ f' P m := by
  intro m
  induction m with
  | zero => intro _; rfl
  | succ m ih =>
    intro h
    unfold sumQ
    rw [ih (fun n h1 h2 => h n h1 (by omega)), h (m + 1) (by omega) (Nat.le_refl _)]
theorem AbE.tk {a b : Ab} {n : Nat} (E : AbE a b n) : b.tk n = a.tk n := by
  unfold Ab.tk
  rw [E.kd, E.ln, E.nc, E.nk, E.nv]
theorem newA_sum {a : Ab} {kd ln nk nv nt : Nat} (Q : Nat → Bool) : sumQ (newA a kd ln nk nv nt).tk (fun n => (newA a kd ln nk nv nt).th n && Q n) (a.md + 1) = sumQ a.tk (fun n => a.th n && Q n) a.md + (if Q (a.md + 1) = true then tkN kd ln nk nv else 0) := by
  show sumQ (newA a kd ln nk nv nt).tk (fun n => (newA a kd ln nk nv nt).th n && Q n) a.md + (if ((newA a kd ln nk nv nt).th (a.md + 1) && Q (a.md + 1)) = true then (newA a kd ln nk nv nt).tk (a.md + 1) else 0) = _
  rw [newA_tk, newA_n.1, Bool.true_and]
  congr 1
  rw [sumQ_f (f' := a.tk) (fun n _ h2 => (newA_o h2).1.tk)]
  refine sumQ_congr ?_
  intro n _ h2
  show ((newA a kd ln nk nv nt).th n && Q n) = (a.th n && Q n)
  rw [(newA_o h2).2]
theorem newA_x {a : Ab} {kd ln nk nv nt : Nat} : AbX a (newA a kd ln nk nv nt) := ⟨Nat.le_succ _, fun n hn => ⟨(newA_o hn).2, (newA_o hn).1.kd, (newA_o hn).1.ln⟩⟩
theorem AI_new {a : Ab} {kd ln nk nv nt : Nat} (A : AI a) (hu : a.us + tkN kd ln nk nv ≤ a.lm) (ht : a.tn < 1000) (hk : (kd = 2 ∧ ln ≤ 4096) ∨ (kd = 3 ∧ ln ≤ 32768) ∨ (kd = 4 ∧ ln = 0 ∧ 1 ≤ nk ∧ nk ≤ 4 ∧ nv ≤ 4 ∧ nt < 2 ^ nk)) : AI (newA a kd ln nk nv nt) := by
  have X := newA_x (a := a) (kd := kd) (ln := ln) (nk := nk) (nv := nv) (nt := nt)
  have md := A.md
  refine ⟨A.lm, A.eg, ?_, show a.md + 1 ≤ a.tn + 1 by omega, show a.tn + 1 ≤ 1000 by omega, fun i hi => okW_x X (A.rg i hi), ?_, ?_, ?_, ?_, ?_⟩
  · rw [newA_us]; exact hu
  · intro n hn
    by_cases hnm : n ≤ a.md
    · have on : obj a n := ⟨hn.1, hnm, by rw [← (newA_o hnm).2]; exact hn.2.2⟩
      exact okO_x X (Nat.le_succ _) (A.ob n on) hnm (newA_o hnm).1
    · have hle : n ≤ a.md + 1 := hn.2.1
      have : n = a.md + 1 := by omega
      subst this
      obtain ⟨n1, n2, n3, n4, n5, n6, n7, n8, n9, n10, n11, n12⟩ := newA_n (a := a) (kd := kd) (ln := ln) (nk := nk) (nv := nv) (nt := nt)
      refine ⟨by rw [n4]; omega, ?_⟩
      rw [n2]
      rcases hk with ⟨h1, h2⟩ | ⟨h1, h2⟩ | ⟨h1, h2, h3, h4, h5, h6⟩
      · refine Or.inl ⟨h1, ?_⟩
        unfold okR
        rw [n3, n5]
        exact ⟨h2, fun _ _ => trivial⟩
      · refine Or.inr (Or.inl ⟨h1, ?_⟩)
        unfold okT
        rw [n3, n6]
        exact ⟨h2, fun _ => (show 0 < 256 by omega), fun _ _ => rfl⟩
      · refine Or.inr (Or.inr ⟨h1, ?_⟩)
        have em : ∀ e, ¬ (e ∈ ens ((newA a kd ln nk nv nt).sl (a.md + 1))) := by
          intro e he
          rw [n12] at he
          cases he
        refine ⟨by rw [n3]; exact h2, by rw [n7]; omega, by rw [n8]; omega, by rw [n9, n7]; exact h6, by rw [n10]; omega, by rw [n10, n7, n8]; omega, by rw [n12]; exact Nat.zero_le _, by rw [n11]; exact Nat.zero_le _, by rw [n12]; exact List.Pairwise.nil, fun e he => absurd he (em e), fun e he => absurd he (em e), fun e he => absurd he (em e), fun e he => absurd he (em e)⟩
  · rw [newA_us]
    have h1 := newA_sum (a := a) (kd := kd) (ln := ln) (nk := nk) (nv := nv) (nt := nt) (fun _ => true)
    rw [if_pos rfl] at h1
    have h2 : (fun n => (newA a kd ln nk nv nt).th n && true) = (newA a kd ln nk nv nt).th := by funext n; exact Bool.and_true _
    have h3 : (fun n => a.th n && true) = a.th := by funext n; exact Bool.and_true _
    rw [h2, h3] at h1
    have h4 := A.sum
    show a.us + tkN kd ln nk nv = sumQ (newA a kd ln nk nv nt).tk (newA a kd ln nk nv nt).th (a.md + 1) + a.ol
    rw [h1]
    omega
  · intro t h
    obtain ⟨on, k⟩ := A.el t h
    exact ⟨X.ob on, (X.2 t.1 on.2.1).2.1.trans k⟩
  · have := A.en
    show a.el.length ≤ a.tn + 1
    omega
  · intro n hn k
    by_cases hnm : n ≤ a.md
    · have on : obj a n := ⟨hn.1, hnm, by rw [← (newA_o hnm).2]; exact hn.2.2⟩
      have E := (newA_o (kd := kd) (ln := ln) (nk := nk) (nv := nv) (nt := nt) hnm).1
      rw [E.sl]
      exact A.cn n on (by rw [← E.kd]; exact k)
    · have hle : n ≤ a.md + 1 := hn.2.1
      have : n = a.md + 1 := by omega
      subst this
      rw [newA_n.2.2.2.2.2.2.2.2.2.2.2]
      have : a.el.filter (fun t => t.1 == a.md + 1) = [] := by
        rw [List.filter_eq_nil_iff]
        intro t ht
        have := (A.el t ht).1.2.1
        simp
        omega
      show [] = (a.el.filter (fun t => t.1 == a.md + 1)).map (fun t => t.2)
      rw [this]
      rfl
theorem Pl_bk {z z2 : Hs} {g : Gh} {h kd ln nu c : Nat} {fl : List Nat} {lh : Nat} (i : HI0 z g) (P : Pl z z2 g h kd ln nu c fl lh) {k : Nat} (m : k ∈ g.hs) : BkE z z2 g (gnew g h kd ln nu fl lh) k := by
  have hk : k ≠ h := fun e => P.nh (e ▸ m)
  have t := Til_mem i.til m
  refine ⟨List.mem_append_left _ m, updN_o _ _ hk, updN_o _ _ hk, updN_o _ _ hk, updN_o _ _ hk, ?_⟩
  intro j _ hj
  show z2.abt (updN g.st h g.e k + j) = _ ∧ z2.arf (updN g.st h g.e k + j) = _
  rw [updN_o _ _ hk]
  exact P.lo _ (by omega)
theorem pk0 (i : Nat) : pk (fun _ => 0) i = 0 := by
  unfold pk
  simp
def onew (o : Go) (n h : Nat) : Go := (o.s_ho (updN o.ho n h)).s_ow (updN o.ow h n)
theorem RC_new {z z2 : Hs} {g : Gh} {o : Go} {a : Ab} {h kd ln c : Nat} {fl : List Nat} {lh : Nat} (r : RC z g o a) (A : AI a) (hk : kd = 2 ∨ kd = 3) (P : Pl z z2 g h kd ln (a.md + 1) c fl lh) : RC z2 (gnew g h kd ln (a.md + 1) fl lh) (onew o (a.md + 1) h) (newA a kd ln 0 0 0) := by
  obtain ⟨n1, n2, n3, n4, n5, n6, n7, n8, n9, n10, n11, n12⟩ := newA_n (a := a) (kd := kd) (ln := ln) (nk := 0) (nv := 0) (nt := 0)
  have hho : ∀ m, m ≤ a.md → (onew o (a.md + 1) h).ho m = o.ho m := fun m hm => updN_o _ _ (by omega)
  have hhn : (onew o (a.md + 1) h).ho (a.md + 1) = h := updN_s _ _ _
  have how : ∀ k, k ∈ g.hs → (onew o (a.md + 1) h).ow k = o.ow k := fun k m => updN_o _ _ (fun e => P.nh (e ▸ m))
  have hwn : (onew o (a.md + 1) h).ow h = a.md + 1 := updN_s _ _ _
  have szs : 1 + (if kd = 3 then (ln + 7) / 8 else ln) = tkN kd ln 0 0 := by
    unfold tkN
    rcases hk with rfl | rfl
    · show 1 + ln = ln + 1
      omega
    · show 1 + (ln + 7) / 8 = (ln + 7) / 8 + 1
      omega
  have X := newA_x (a := a) (kd := kd) (ln := ln) (nk := 0) (nv := 0) (nt := 0)
  have hkd : (gnew g h kd ln (a.md + 1) fl lh).kd h = kd := updN_s _ _ _
  have hln : (gnew g h kd ln (a.md + 1) fl lh).ln h = ln := updN_s _ _ _
  have hst : (gnew g h kd ln (a.md + 1) fl lh).st h = g.e := updN_s _ _ _
  have szh : (gnew g h kd ln (a.md + 1) fl lh).sz h = tkN kd ln 0 0 := by
    unfold Gh.sz
    rw [hkd, hln]
    exact szs
  have hmh : h ∈ (gnew g h kd ln (a.md + 1) fl lh).hs := List.mem_append_right _ (List.mem_singleton.mpr rfl)
  have hlo := Til_le r.i.til
  refine ⟨P.i, ?_, ?_, ?_, ?_, r.lm, ?_, ?_, ?_, ?_, ?_, ?_⟩
  · rw [P.md, if_neg (by omega), r.md]
    exact q_add a.md 1
  · rw [P.sc.1]; exact r.co
  · rw [P.sc.2.1]; exact r.gb
  · rw [P.sc.2.2]; exact r.al
  · rw [newA_us]
    show g.e + (1 + (if kd = 3 then (ln + 7) / 8 else ln)) = _
    rw [szs, r.e]
    omega
  · rw [hho 0 (Nat.zero_le _)]; exact r.h0
  · intro i hi
    have := P.lo i (by omega)
    exact wat_s (r.rg i hi) (A.rg i hi) hho this
  · intro n hn
    by_cases hnm : n ≤ a.md
    · have on : obj a n := ⟨hn.1, hnm, by rw [← (newA_o hnm).2]; exact hn.2.2⟩
      have ob := r.ob n on
      exact ObR_s ob (A.ob n on) (newA_o hnm).1 hho hnm rfl (by rw [how _ ob.m]; exact ob.ow) (fun k => by rw [how _ (ob.mp k).2.m]; exact (ob.mp k).2.ow) (Pl_bk r.i P ob.m) (fun k => Pl_bk r.i P (ob.mp k).2.m)
    · have hle : n ≤ a.md + 1 := hn.2.1
      have : n = a.md + 1 := by omega
      subst this
      refine ⟨by rw [hhn]; exact hmh, by rw [hhn]; exact updN_s _ _ _, by rw [hhn, n2]; exact hkd, by rw [hhn, n4]; exact updN_s _ _ _, by rw [hhn]; exact hwn, ?_, ?_, ?_⟩
      · intro k
        rw [n2] at k
        refine ⟨by rw [hhn, n3]; exact hln, ?_⟩
        rw [hhn, hst, n3, n5]
        intro i hi
        have := P.hi (g.e + 1 + i) (by omega) (by rw [if_neg (by omega)]; omega)
        exact ⟨this.2, this.1⟩
      · intro k
        rw [n2] at k
        refine ⟨by rw [hhn, n3]; exact hln, ?_⟩
        rw [hhn, hst, n3, n6]
        intro i hi
        have := P.hi (g.e + 1 + i) (by omega) (by rw [if_pos k]; omega)
        rw [pk0]
        exact this.1
      · intro k
        rw [n2] at k
        omega
  · intro k m
    rcases List.mem_append.mp (show k ∈ g.hs ++ [h] from m) with m | m
    · rw [how k m]
      rcases r.ow k m with e | ⟨e1, e2⟩
      · exact Or.inl e
      · refine Or.inr ⟨X.ob e1, ?_⟩
        have e3 := e1.2.1
        rw [hho _ e3, (X.2 _ e3).2.1]
        exact e2
    · rw [List.mem_singleton] at m
      subst m
      rw [hwn]
      refine Or.inr ⟨⟨by omega, Nat.le_refl _, n1⟩, Or.inl ?_⟩
      rw [hhn]
  · intro Q
    show ((g.hs ++ [h]).map _).sum = _
    rw [List.map_append, List.sum_append, List.map_singleton]
    have e1 : (g.hs.map (fun k => if Q ((onew o (a.md + 1) h).ow k) = true then (gnew g h kd ln (a.md + 1) fl lh).sz k else 0)).sum = (g.hs.map (fun k => if Q (o.ow k) = true then g.sz k else 0)).sum := by
      refine map_sum_congr ?_
      intro k m
      have hkh : k ≠ h := fun e => P.nh (e ▸ m)
      rw [how k m]
      have : (gnew g h kd ln (a.md + 1) fl lh).sz k = g.sz k := by
        unfold Gh.sz
        show 1 + (if updN g.kd h kd k = 3 then (updN g.ln h ln k + 7) / 8 else updN g.ln h ln k) = _
        rw [updN_o _ _ hkh, updN_o _ _ hkh]
      rw [this]
    rw [e1, r.sum Q, hwn, szh, List.sum_singleton]
    have := newA_sum (a := a) (kd := kd) (ln := ln) (nk := 0) (nv := 0) (nt := 0) Q
    show _ = sumQ (newA a kd ln 0 0 0).tk (fun n => (newA a kd ln 0 0 0).th n && Q n) (a.md + 1) + (if Q 0 = true then a.ol else 0)
    rw [this]
    omega
