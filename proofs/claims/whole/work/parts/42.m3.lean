/-! Blocks of memory: headers, tiling, handles. -/
def hdr (nu ln fr kd h : Nat) : Nat := nu * 1099511627776 + ln * 4194304 + fr * 2097152 + kd * 262144 + h
def hdok (nu ln fr kd h : Nat) : Prop := nu < 8388608 ∧ ln < 262144 ∧ fr < 2 ∧ kd < 8 ∧ h < 262144
theorem hp_kindIn_e {z : Hs} {nu ln fr kd h : Nat} (o : hdok nu ln fr kd h) : hp_kindIn z (Int64.ofNat (hdr nu ln fr kd h)) = some (Int32.ofNat kd) := by
  obtain ⟨o1, o2, o3, o4, o5⟩ := o
  unfold hp_kindIn hdr
  rw [l18 (by omega), m7, q_32, show (nu * 1099511627776 + ln * 4194304 + fr * 2097152 + kd * 262144 + h) / 262144 % 8 = kd from by omega]
theorem hp_lengthIn_e {z : Hs} {nu ln fr kd h : Nat} (o : hdok nu ln fr kd h) : hp_lengthIn z (Int64.ofNat (hdr nu ln fr kd h)) = some (Int32.ofNat ln) := by
  obtain ⟨o1, o2, o3, o4, o5⟩ := o
  unfold hp_lengthIn hdr
  rw [l22 (by omega), m262143, q_32, show (nu * 1099511627776 + ln * 4194304 + fr * 2097152 + kd * 262144 + h) / 4194304 % 262144 = ln from by omega]
theorem hdr_h {nu ln fr kd h : Nat} (o : hdok nu ln fr kd h) : (Int64.ofNat (hdr nu ln fr kd h) &&& 262143).toInt32 = Int32.ofNat h := by
  obtain ⟨o1, o2, o3, o4, o5⟩ := o
  unfold hdr
  rw [m262143, q_32, show (nu * 1099511627776 + ln * 4194304 + fr * 2097152 + kd * 262144 + h) % 262144 = h from by omega]
theorem hdr_nu {nu ln fr kd h : Nat} (o : hdok nu ln fr kd h) : (((Int64.ofNat (hdr nu ln fr kd h)).toUInt64 >>> ((40 : Int32).toInt64.toUInt64 &&& Int64.toUInt64 63)).toInt64).toInt32 = Int32.ofNat nu := by
  obtain ⟨o1, o2, o3, o4, o5⟩ := o
  unfold hdr
  rw [l40 (by omega), q_32, show (nu * 1099511627776 + ln * 4194304 + fr * 2097152 + kd * 262144 + h) / 1099511627776 = nu from by omega]
theorem hdr_fr {nu ln fr kd h : Nat} (o : hdok nu ln fr kd h) : ((Int64.ofNat (hdr nu ln fr kd h)).toUInt64 >>> ((21 : Int32).toInt64.toUInt64 &&& Int64.toUInt64 63)).toInt64 &&& 1 = Int64.ofNat fr := by
  obtain ⟨o1, o2, o3, o4, o5⟩ := o
  unfold hdr
  rw [l21 (by omega), m1, show (nu * 1099511627776 + ln * 4194304 + fr * 2097152 + kd * 262144 + h) / 2097152 % 2 = fr from by omega]
theorem hdr_mk {nu ln kd h : Nat} (o : hdok nu ln 0 kd h) : (((Int64.ofNat nu <<< ((40 : Int32).toInt64 &&& 63)) ||| (Int64.ofNat ln <<< ((22 : Int32).toInt64 &&& 63))) ||| (Int64.ofNat kd <<< ((18 : Int32).toInt64 &&& 63))) ||| Int64.ofNat h = Int64.ofNat (hdr nu ln 0 kd h) := by
  obtain ⟨o1, o2, o3, o4, o5⟩ := o
  rw [s40, s22, s18, l_or, l_or, l_or]
  have e1 : nu * 1099511627776 ||| ln * 4194304 = nu * 1099511627776 + ln * 4194304 := n_or (k := 40) (by omega)
  have e2 : (nu * 1099511627776 + ln * 4194304) ||| kd * 262144 = nu * 1099511627776 + ln * 4194304 + kd * 262144 := by
    have := n_or (a := nu * 262144 + ln) (b := kd * 262144) (k := 22) (by omega)
    rw [show (nu * 262144 + ln) * 2 ^ 22 = nu * 1099511627776 + ln * 4194304 from by omega] at this
    exact this
  have e3 : (nu * 1099511627776 + ln * 4194304 + kd * 262144) ||| h = nu * 1099511627776 + ln * 4194304 + kd * 262144 + h := by
    have := n_or (a := nu * 4194304 + ln * 16 + kd) (b := h) (k := 18) (by omega)
    rw [show (nu * 4194304 + ln * 16 + kd) * 2 ^ 18 = nu * 1099511627776 + ln * 4194304 + kd * 262144 from by omega] at this
    exact this
  rw [e1, e2, e3]
  unfold hdr
  rw [Nat.zero_mul, Nat.add_zero]
theorem hdr_frz {nu ln fr kd h : Nat} (o : hdok nu ln fr kd h) : Int64.ofNat (hdr nu ln fr kd h) ||| 2097152 = Int64.ofNat (hdr nu ln 1 kd h) := by
  obtain ⟨o1, o2, o3, o4, o5⟩ := o
  have e0 : (2097152 : Int64) = Int64.ofNat 2097152 := rfl
  rw [e0, l_or]
  congr 1
  have h1 : hdr nu ln fr kd h = (nu * 524288 + ln * 2 + fr) * 2 ^ 21 + (kd * 262144 + h) := by unfold hdr; omega
  have h2 : hdr nu ln 1 kd h = (nu * 524288 + ln * 2 + 1) * 2 ^ 21 + (kd * 262144 + h) := by unfold hdr; omega
  have hb : kd * 262144 + h < 2 ^ 21 := by omega
  rw [h1, h2, ← n_or hb, ← n_or hb, Nat.or_assoc, Nat.or_comm (kd * 262144 + h), ← Nat.or_assoc]
  congr 1
  have h3 : 2097152 = 1 * 2 ^ 21 := by decide
  rw [h3, ← Nat.shiftLeft_eq, ← Nat.shiftLeft_eq, ← Nat.shiftLeft_eq, ← Nat.shiftLeft_or_distrib]
  congr 1
  have h4 : nu * 524288 + ln * 2 + fr = (nu * 262144 + ln) * 2 ^ 1 + fr := by omega
  have h5 : nu * 524288 + ln * 2 + 1 = (nu * 262144 + ln) * 2 ^ 1 + 1 := by omega
  rw [h4, h5, ← n_or (by omega), ← n_or (by decide), Nat.or_assoc]
  congr 1
  have : fr = 0 ∨ fr = 1 := by omega
  rcases this with rfl | rfl <;> rfl
def Til (st sz : Nat → Nat) : Nat → List Nat → Nat → Prop
  | a, [], e => a = e
  | a, h :: t, e => st h = a ∧ Til st sz (a + sz h) t e
theorem Til_le {st sz : Nat → Nat} : ∀ {l : List Nat} {a e : Nat}, Til st sz a l e → a ≤ e := by
  intro l
  induction l with
  | nil => intro a e h; exact Nat.le_of_eq h
  | cons x t ih => intro a e h; have := ih h.2; omega
theorem Til_mem {st sz : Nat → Nat} : ∀ {l : List Nat} {a e h : Nat}, Til st sz a l e → h ∈ l → a ≤ st h ∧ st h + sz h ≤ e := by
  intro l
  induction l with
  | nil => intro a e h _ m; cases m
  | cons x t ih =>
    intro a e h hT m
    have hl := Til_le hT.2
    have hx := hT.1
    rcases List.mem_cons.mp m with rfl | m
    · omega
    · have := ih hT.2 m
      omega
theorem Til_dis {st sz : Nat → Nat} : ∀ {l : List Nat} {a e h k : Nat}, Til st sz a l e → h ∈ l → k ∈ l → h ≠ k → st h + sz h ≤ st k ∨ st k + sz k ≤ st h := by
  intro l
  induction l with
  | nil => intro a e h k _ m; cases m
  | cons x t ih =>
    intro a e h k hT m n hne
    have hx := hT.1
    rcases List.mem_cons.mp m with m1 | m1
    · rcases List.mem_cons.mp n with n1 | n1
      · exact absurd (m1.trans n1.symm) hne
      · have := Til_mem hT.2 n1
        subst m1
        omega
    · rcases List.mem_cons.mp n with n1 | n1
      · have := Til_mem hT.2 m1
        subst n1
        omega
      · exact ih hT.2 m1 n1 hne
theorem Til_snoc {st sz : Nat → Nat} : ∀ {l : List Nat} {a e h : Nat}, Til st sz a l e → st h = e → Til st sz a (l ++ [h]) (e + sz h) := by
  intro l
  induction l with
  | nil => intro a e h hT hs; cases hT; exact ⟨hs, rfl⟩
  | cons x t ih => intro a e h hT hs; exact ⟨hT.1, ih hT.2 hs⟩
theorem Til_congr {st sz st' sz' : Nat → Nat} : ∀ {l : List Nat} {a e : Nat}, (∀ h, h ∈ l → st' h = st h ∧ sz' h = sz h) → Til st sz a l e → Til st' sz' a l e := by
  intro l
  induction l with
  | nil => intro a e _ h; exact h
  | cons x t ih =>
    intro a e hc h
    have hx := hc x (List.mem_cons_self ..)
    refine ⟨hx.1.trans h.1, ?_⟩
    rw [hx.2]
    exact ih (fun k m => hc k (List.mem_cons_of_mem _ m)) h.2
theorem Til_sum {st sz : Nat → Nat} : ∀ {l : List Nat} {a e : Nat}, Til st sz a l e → e = a + (l.map sz).sum := by
  intro l
  induction l with
  | nil => intro a e h; cases h; rfl
  | cons x t ih => intro a e h; rw [List.map_cons, List.sum_cons, ih h.2]; omega
def Chn (s : Nat → Int64) : Int32 → List Nat → Prop
  | x, [] => x = 0
  | x, h :: t => x = Int32.ofNat h ∧ Chn s (s h).toInt32 t
theorem Chn_congr {s s' : Nat → Int64} : ∀ {l : List Nat} {x : Int32}, (∀ h, h ∈ l → s' h = s h) → Chn s x l → Chn s' x l := by
  intro l
  induction l with
  | nil => intro x _ h; exact h
  | cons y t ih =>
    intro x hc h
    refine ⟨h.1, ?_⟩
    rw [hc y (List.mem_cons_self ..)]
    exact ih (fun k m => hc k (List.mem_cons_of_mem _ m)) h.2
/-- pigeons -/
theorem nodup_len : ∀ (n : Nat) (l : List Nat), l.Nodup → (∀ h, h ∈ l → 1 ≤ h ∧ h ≤ n) → l.length ≤ n := by
  intro n
  induction n with
  | zero =>
    intro l _ h
    cases l with
    | nil => exact Nat.le_refl _
    | cons x t => have := h x (List.mem_cons_self ..); omega
  | succ n ih =>
    intro l hn h
    have h1 := ih (l.erase (n + 1)) (hn.erase _) (by
      intro k hk
      have hk2 := (hn.mem_erase_iff).mp hk
      have := h k hk2.2
      have := hk2.1
      omega)
    have h2 := List.length_erase (a := n + 1) (l := l)
    by_cases hm : n + 1 ∈ l
    · rw [List.length_erase_of_mem hm] at h1
      omega
    · rw [List.erase_of_not_mem hm] at h1
      omega
abbrev Gh : Type := (List Nat) × (List Nat) × (Nat → Nat) × (Nat → Nat) × (Nat → Nat) × (Nat → Nat) × (Nat → Nat) × (Nat) × (Nat) × (Nat)
def Gh.hs (g : Gh) : List Nat := g.1
def Gh.fl (g : Gh) : List Nat := g.2.1
def Gh.st (g : Gh) : Nat → Nat := g.2.2.1
def Gh.kd (g : Gh) : Nat → Nat := g.2.2.2.1
def Gh.fr (g : Gh) : Nat → Nat := g.2.2.2.2.1
def Gh.ln (g : Gh) : Nat → Nat := g.2.2.2.2.2.1
def Gh.nu (g : Gh) : Nat → Nat := g.2.2.2.2.2.2.1
def Gh.e (g : Gh) : Nat := g.2.2.2.2.2.2.2.1
def Gh.lh (g : Gh) : Nat := g.2.2.2.2.2.2.2.2.1
def Gh.lm (g : Gh) : Nat := g.2.2.2.2.2.2.2.2.2
def Gh.s_hs (g : Gh) (v : List Nat) : Gh := (v, g.2.1, g.2.2.1, g.2.2.2.1, g.2.2.2.2.1, g.2.2.2.2.2.1, g.2.2.2.2.2.2.1, g.2.2.2.2.2.2.2.1, g.2.2.2.2.2.2.2.2.1, g.2.2.2.2.2.2.2.2.2)
def Gh.s_fl (g : Gh) (v : List Nat) : Gh := (g.1, v, g.2.2.1, g.2.2.2.1, g.2.2.2.2.1, g.2.2.2.2.2.1, g.2.2.2.2.2.2.1, g.2.2.2.2.2.2.2.1, g.2.2.2.2.2.2.2.2.1, g.2.2.2.2.2.2.2.2.2)
def Gh.s_st (g : Gh) (v : Nat → Nat) : Gh := (g.1, g.2.1, v, g.2.2.2.1, g.2.2.2.2.1, g.2.2.2.2.2.1, g.2.2.2.2.2.2.1, g.2.2.2.2.2.2.2.1, g.2.2.2.2.2.2.2.2.1, g.2.2.2.2.2.2.2.2.2)
def Gh.s_kd (g : Gh) (v : Nat → Nat) : Gh := (g.1, g.2.1, g.2.2.1, v, g.2.2.2.2.1, g.2.2.2.2.2.1, g.2.2.2.2.2.2.1, g.2.2.2.2.2.2.2.1, g.2.2.2.2.2.2.2.2.1, g.2.2.2.2.2.2.2.2.2)
def Gh.s_fr (g : Gh) (v : Nat → Nat) : Gh := (g.1, g.2.1, g.2.2.1, g.2.2.2.1, v, g.2.2.2.2.2.1, g.2.2.2.2.2.2.1, g.2.2.2.2.2.2.2.1, g.2.2.2.2.2.2.2.2.1, g.2.2.2.2.2.2.2.2.2)
def Gh.s_ln (g : Gh) (v : Nat → Nat) : Gh := (g.1, g.2.1, g.2.2.1, g.2.2.2.1, g.2.2.2.2.1, v, g.2.2.2.2.2.2.1, g.2.2.2.2.2.2.2.1, g.2.2.2.2.2.2.2.2.1, g.2.2.2.2.2.2.2.2.2)
def Gh.s_nu (g : Gh) (v : Nat → Nat) : Gh := (g.1, g.2.1, g.2.2.1, g.2.2.2.1, g.2.2.2.2.1, g.2.2.2.2.2.1, v, g.2.2.2.2.2.2.2.1, g.2.2.2.2.2.2.2.2.1, g.2.2.2.2.2.2.2.2.2)
def Gh.s_e (g : Gh) (v : Nat) : Gh := (g.1, g.2.1, g.2.2.1, g.2.2.2.1, g.2.2.2.2.1, g.2.2.2.2.2.1, g.2.2.2.2.2.2.1, v, g.2.2.2.2.2.2.2.2.1, g.2.2.2.2.2.2.2.2.2)
def Gh.s_lh (g : Gh) (v : Nat) : Gh := (g.1, g.2.1, g.2.2.1, g.2.2.2.1, g.2.2.2.2.1, g.2.2.2.2.2.1, g.2.2.2.2.2.2.1, g.2.2.2.2.2.2.2.1, v, g.2.2.2.2.2.2.2.2.2)
def Gh.s_lm (g : Gh) (v : Nat) : Gh := (g.1, g.2.1, g.2.2.1, g.2.2.2.1, g.2.2.2.2.1, g.2.2.2.2.2.1, g.2.2.2.2.2.2.1, g.2.2.2.2.2.2.2.1, g.2.2.2.2.2.2.2.2.1, v)

def Gh.sz (g : Gh) (h : Nat) : Nat := 1 + (if g.kd h = 3 then (g.ln h + 7) / 8 else g.ln h)
def Hd (z : Hs) (g : Gh) (h : Nat) : Prop :=
  (z.ast h = Int64.ofNat (g.st h)) ∧
  (z.abt (g.st h) = Int64.ofNat (hdr (g.nu h) (g.ln h) (g.fr h) (g.kd h) h)) ∧
  (1 ≤ g.kd h) ∧
  (g.kd h ≤ 5) ∧
  (g.fr h ≤ 1) ∧
  (g.ln h ≤ 131072) ∧
  (g.nu h < 8388608)
theorem Hd.st {z : Hs} {g : Gh} {h : Nat} (hyp : Hd z g h) : z.ast h = Int64.ofNat (g.st h) := hyp.1
theorem Hd.hd {z : Hs} {g : Gh} {h : Nat} (hyp : Hd z g h) : z.abt (g.st h) = Int64.ofNat (hdr (g.nu h) (g.ln h) (g.fr h) (g.kd h) h) := hyp.2.1
theorem Hd.k1 {z : Hs} {g : Gh} {h : Nat} (hyp : Hd z g h) : 1 ≤ g.kd h := hyp.2.2.1
theorem Hd.k5 {z : Hs} {g : Gh} {h : Nat} (hyp : Hd z g h) : g.kd h ≤ 5 := hyp.2.2.2.1
theorem Hd.f1 {z : Hs} {g : Gh} {h : Nat} (hyp : Hd z g h) : g.fr h ≤ 1 := hyp.2.2.2.2.1
theorem Hd.l1 {z : Hs} {g : Gh} {h : Nat} (hyp : Hd z g h) : g.ln h ≤ 131072 := hyp.2.2.2.2.2.1
theorem Hd.n1 {z : Hs} {g : Gh} {h : Nat} (hyp : Hd z g h) : g.nu h < 8388608 := hyp.2.2.2.2.2.2

def hv (g : Gh) (h : Nat) : Prop := h = 0 ∨ h ∈ g.hs
def HI0 (z : Hs) (g : Gh) : Prop :=
  (64 ≤ g.lm ∧ g.lm ≤ 131072) ∧
  (z.lim = Int32.ofNat g.lm) ∧
  (z.en = Int32.ofNat g.e) ∧
  (g.e ≤ 17 + g.lm) ∧
  (g.e ≤ z.nbt) ∧
  (z.nrf = z.nbt) ∧
  (64 ≤ z.nbt ∧ z.nbt ≤ 17 + g.lm) ∧
  (z.nrc = z.nst) ∧
  (z.nqu = z.nst) ∧
  (64 ≤ z.nst ∧ z.nst ≤ g.lm + 1) ∧
  (∀ a, z.arf a = 0 ∨ z.arf a = 1) ∧
  (Til g.st g.sz 17 g.hs g.e) ∧
  (∀ h, hv g h → Hd z g h) ∧
  (g.st 0 = 16 ∧ g.kd 0 = 1 ∧ g.ln 0 = 0 ∧ g.nu 0 = 0 ∧ g.fr 0 = 0) ∧
  (z.lh = Int32.ofNat g.lh) ∧
  (g.lh < z.nst) ∧
  (Chn z.ast z.fh g.fl) ∧
  ((g.hs ++ g.fl).Nodup) ∧
  (∀ h, h ∈ g.hs ++ g.fl → 1 ≤ h ∧ h ≤ g.lh) ∧
  ((g.hs ++ g.fl).length = g.lh)
theorem HI0.lm {z : Hs} {g : Gh} (hyp : HI0 z g) : 64 ≤ g.lm ∧ g.lm ≤ 131072 := hyp.1
theorem HI0.lim {z : Hs} {g : Gh} (hyp : HI0 z g) : z.lim = Int32.ofNat g.lm := hyp.2.1
theorem HI0.en {z : Hs} {g : Gh} (hyp : HI0 z g) : z.en = Int32.ofNat g.e := hyp.2.2.1
theorem HI0.el {z : Hs} {g : Gh} (hyp : HI0 z g) : g.e ≤ 17 + g.lm := hyp.2.2.2.1
theorem HI0.eb {z : Hs} {g : Gh} (hyp : HI0 z g) : g.e ≤ z.nbt := hyp.2.2.2.2.1
theorem HI0.rb {z : Hs} {g : Gh} (hyp : HI0 z g) : z.nrf = z.nbt := hyp.2.2.2.2.2.1
theorem HI0.bl {z : Hs} {g : Gh} (hyp : HI0 z g) : 64 ≤ z.nbt ∧ z.nbt ≤ 17 + g.lm := hyp.2.2.2.2.2.2.1
theorem HI0.rc {z : Hs} {g : Gh} (hyp : HI0 z g) : z.nrc = z.nst := hyp.2.2.2.2.2.2.2.1
theorem HI0.qu {z : Hs} {g : Gh} (hyp : HI0 z g) : z.nqu = z.nst := hyp.2.2.2.2.2.2.2.2.1
theorem HI0.sl {z : Hs} {g : Gh} (hyp : HI0 z g) : 64 ≤ z.nst ∧ z.nst ≤ g.lm + 1 := hyp.2.2.2.2.2.2.2.2.2.1
theorem HI0.fl {z : Hs} {g : Gh} (hyp : HI0 z g) : ∀ a, z.arf a = 0 ∨ z.arf a = 1 := hyp.2.2.2.2.2.2.2.2.2.2.1
theorem HI0.til {z : Hs} {g : Gh} (hyp : HI0 z g) : Til g.st g.sz 17 g.hs g.e := hyp.2.2.2.2.2.2.2.2.2.2.2.1
theorem HI0.hd {z : Hs} {g : Gh} (hyp : HI0 z g) : ∀ h, hv g h → Hd z g h := hyp.2.2.2.2.2.2.2.2.2.2.2.2.1
theorem HI0.h0 {z : Hs} {g : Gh} (hyp : HI0 z g) : g.st 0 = 16 ∧ g.kd 0 = 1 ∧ g.ln 0 = 0 ∧ g.nu 0 = 0 ∧ g.fr 0 = 0 := hyp.2.2.2.2.2.2.2.2.2.2.2.2.2.1
theorem HI0.lh {z : Hs} {g : Gh} (hyp : HI0 z g) : z.lh = Int32.ofNat g.lh := hyp.2.2.2.2.2.2.2.2.2.2.2.2.2.2.1
theorem HI0.ls {z : Hs} {g : Gh} (hyp : HI0 z g) : g.lh < z.nst := hyp.2.2.2.2.2.2.2.2.2.2.2.2.2.2.2.1
theorem HI0.chn {z : Hs} {g : Gh} (hyp : HI0 z g) : Chn z.ast z.fh g.fl := hyp.2.2.2.2.2.2.2.2.2.2.2.2.2.2.2.2.1
theorem HI0.nd {z : Hs} {g : Gh} (hyp : HI0 z g) : (g.hs ++ g.fl).Nodup := hyp.2.2.2.2.2.2.2.2.2.2.2.2.2.2.2.2.2.1
theorem HI0.rg {z : Hs} {g : Gh} (hyp : HI0 z g) : ∀ h, h ∈ g.hs ++ g.fl → 1 ≤ h ∧ h ≤ g.lh := hyp.2.2.2.2.2.2.2.2.2.2.2.2.2.2.2.2.2.2.1
theorem HI0.le {z : Hs} {g : Gh} (hyp : HI0 z g) : (g.hs ++ g.fl).length = g.lh := hyp.2.2.2.2.2.2.2.2.2.2.2.2.2.2.2.2.2.2.2

theorem HI0.hb {z : Hs} {g : Gh} (i : HI0 z g) : hb z := ⟨i.rb, by have := i.bl; have := i.lm; omega, i.rc, i.qu, by have := i.sl; have := i.lm; omega, i.fl⟩
theorem HI0.hok {z : Hs} {g : Gh} (i : HI0 z g) {h : Nat} (v : hv g h) : h < z.nst ∧ g.st h < z.nbt ∧ hdok (g.nu h) (g.ln h) (g.fr h) (g.kd h) h ∧ g.st h < 131089 ∧ h < 131073 := by
  have d := i.hd h v
  have d1 := d.k1
  have d2 := d.k5
  have d3 := d.f1
  have d4 := d.l1
  have d5 := d.n1
  have l := i.lm
  have e1 := i.bl
  have e2 := i.sl
  have e3 := i.ls
  have e4 := i.eb
  have e5 := i.el
  have e6 := i.h0
  rcases v with rfl | m
  · exact ⟨by omega, by omega, ⟨by omega, by omega, by omega, by omega, by omega⟩, by omega, by omega⟩
  · have r := i.rg h (List.mem_append_left _ m)
    have t := Til_mem i.til m
    have s : 1 ≤ g.sz h := by unfold Gh.sz; omega
    exact ⟨by omega, by omega, ⟨by omega, by omega, by omega, by omega, by omega⟩, by omega, by omega⟩
theorem HI0.header {z : Hs} {g : Gh} (i : HI0 z g) {h : Nat} (v : hv g h) : hp_header z (Int32.ofNat h) = some (Int64.ofNat (hdr (g.nu h) (g.ln h) (g.fr h) (g.kd h) h)) := by
  obtain ⟨k1, k2, k3, k4, k5⟩ := i.hok v
  have b := i.hb
  have d := i.hd h v
  unfold hp_header
  rw [q_inb k1 (by have := b.2.2.2.2.1; omega), q_nat (by omega), d.st, q_32, q_inb k2 (by have := b.2.1; omega), q_nat (by omega), d.hd]
  rfl
theorem HI0.first {z : Hs} {g : Gh} (i : HI0 z g) {h : Nat} (v : hv g h) : hp_first z (Int32.ofNat h) = some (Int32.ofNat (g.st h + 1)) := by
  obtain ⟨k1, k2, k3, k4, k5⟩ := i.hok v
  have b := i.hb
  have d := i.hd h v
  unfold hp_first
  rw [q_inb k1 (by have := b.2.2.2.2.1; omega), q_nat (by omega), d.st, q_32]
  exact congrArg some (q_add _ 1)
theorem HI0.length {z : Hs} {g : Gh} (i : HI0 z g) {h : Nat} (v : hv g h) : hp_length z (Int32.ofNat h) = some (Int32.ofNat (g.ln h)) := by
  unfold hp_length
  rw [i.header v, PB.2.1, hp_lengthIn_e (i.hok v).2.2.1]
  rfl
theorem HI0.serial {z : Hs} {g : Gh} (i : HI0 z g) {h : Nat} (v : hv g h) : hp_serial z (Int32.ofNat h) = some (Int32.ofNat (g.nu h)) := by
  unfold hp_serial
  rw [i.header v, PB.2.1, hdr_nu (i.hok v).2.2.1]
theorem HI0.isFrozen {z : Hs} {g : Gh} (i : HI0 z g) {h : Nat} (v : hv g h) : hp_isFrozen z (Int32.ofNat h) = some (Int32.ofNat (g.fr h)) := by
  unfold hp_isFrozen
  rw [i.header v, PB.2.1, hdr_fr (i.hok v).2.2.1]
  have := (i.hd h v).f1
  have : g.fr h = 0 ∨ g.fr h = 1 := by omega
  rcases this with h | h <;> rw [h] <;> rfl
theorem q_sar3 {a : Nat} (h : a < 2147483648) : Int32.ofNat a >>> ((3 : Int32) &&& 31) = Int32.ofNat (a / 8) := by
  rw [show ((3 : Int32) &&& 31) = 3 from by decide]
  apply Int32.toBitVec_inj.mp
  rw [Int32.toBitVec_shiftRight]
  rw [show ((3 : Int32).toBitVec.smod 32) = 3#32 from by decide]
  apply BitVec.eq_of_toNat_eq
  have e : ∀ b, b < 2147483648 → (Int32.ofNat b).toBitVec.toNat = b := by
    intro b hb
    show b % 2 ^ 32 = b
    omega
  have hm : (Int32.ofNat a).toBitVec.msb = false := by
    rw [BitVec.msb_eq_false_iff_two_mul_lt, e a h]
    omega
  show ((Int32.ofNat a).toBitVec.sshiftRight 3).toNat = _
  rw [BitVec.sshiftRight_eq_of_msb_false hm, BitVec.toNat_ushiftRight, e a h, e (a / 8) (by omega), Nat.shiftRight_eq_div_pow]
theorem hp_sizeOf_e {z : Hs} {k n : Nat} (hk : k < 8) (hn : n < 262144) : hp_sizeOf z (Int32.ofNat k) (Int32.ofNat n) = some (Int32.ofNat (1 + (if k = 3 then (n + 7) / 8 else n))) := by
  unfold hp_sizeOf
  have e3 : (Int32.ofNat k = 3) ↔ k = 3 := q_eq (b := 3) (by omega) (by omega)
  by_cases h : k = 3
  · rw [if_pos (e3.mpr h), if_pos h]
    have e1 : Int32.ofNat n + 7 = Int32.ofNat (n + 7) := q_add n 7
    rw [e1]
    have e2 : Int32.ofNat (n + 7) >>> ((3 : Int32) &&& 31) = Int32.ofNat ((n + 7) / 8) := q_sar3 (by omega)
    rw [e2]
    exact congrArg some (q_add 1 _)
  · rw [if_neg (fun c => h (e3.mp c)), if_neg h]
    exact congrArg some (q_add 1 _)
theorem HI0.kindAt_0 {z : Hs} {g : Gh} (i : HI0 z g) {a : Nat} (ha : a < z.nbt) (f : z.arf a = 0) : hp_kindAt z (Int32.ofNat a) = some 0 := by
  have b := i.hb
  unfold hp_kindAt
  rw [q_inb (by rw [b.1]; exact ha) (by have := b.2.1; rw [b.1]; omega), q_nat (by have := b.2.1; omega), f]
  rfl
theorem HI0.kindAt_1 {z : Hs} {g : Gh} (i : HI0 z g) {a h p : Nat} (ha : a < z.nbt) (f : z.arf a = 1) (w : z.abt a = Int64.ofNat (h * 8192 + p)) (v : hv g h) (hp : p < 8192) : hp_kindAt z (Int32.ofNat a) = some (Int32.ofNat (g.kd h)) := by
  have b := i.hb
  obtain ⟨k1, k2, k3, k4, k5⟩ := i.hok v
  unfold hp_kindAt
  rw [hp_handleAt_1 b ha f w (by omega) hp, PB.2.1, i.header v, PB.2.1, hp_kindIn_e k3, PB.2.1, q_inb (by rw [b.1]; exact ha) (by have := b.2.1; rw [b.1]; omega), q_nat (by have := b.2.1; omega), f]
  rfl
/-- a change of words that leaves the headers -/
theorem HI0.wm {z : Hs} {g : Gh} (i : HI0 z g) {b : Nat → Int64} {f : Nat → Int32} (hf : ∀ a, f a = 0 ∨ f a = 1) (hb : ∀ h, hv g h → b (g.st h) = z.abt (g.st h)) : HI0 (Hs.wm z b f) g := by
  refine ⟨i.lm, i.lim, i.en, i.el, i.eb, i.rb, i.bl, i.rc, i.qu, i.sl, hf, i.til, ?_, i.h0, i.lh, i.ls, i.chn, i.nd, i.rg, i.le⟩
  intro h v
  have d := i.hd h v
  exact ⟨d.st, (hb h v).trans d.hd, d.k1, d.k5, d.f1, d.l1, d.n1⟩
/-- where words stand: registers, and behind headers -/
def wd (g : Gh) (a : Nat) : Prop := a < 16 ∨ ∃ h, h ∈ g.hs ∧ g.st h < a ∧ a < g.st h + g.sz h
theorem HI0.wd_ne {z : Hs} {g : Gh} (i : HI0 z g) {a : Nat} (w : wd g a) : a < z.nbt ∧ a < g.e ∧ ∀ h, hv g h → g.st h ≠ a := by
  have e0 := i.h0.1
  have e1 := i.eb
  have e2 := Til_le i.til
  rcases w with w | ⟨k, m, w1, w2⟩
  · refine ⟨by omega, by omega, ?_⟩
    intro h v
    rcases v with rfl | v
    · omega
    · have := Til_mem i.til v
      omega
  · have t := Til_mem i.til m
    refine ⟨by omega, by omega, ?_⟩
    intro h v
    rcases v with rfl | v
    · omega
    · by_cases hk : h = k
      · subst hk; omega
      · have := Til_dis i.til v m hk
        have s : 1 ≤ g.sz h := by unfold Gh.sz; omega
        omega
