/-! New handles, more words, a new block. -/
def PH (lm n : Nat) : Nat := 6 * n + (if n = lm + 1 then 3 * n else 0)
def PW (lm n : Nat) : Nat := 4 * n + (if n = 17 + lm then 2 * n else 0)
theorem q_alb {n b : Nat} (h : n < 2147483648) (h2 : n * b ≤ 536870912) : alb (Int32.ofNat n) b = true := by
  unfold alb
  rw [decide_eq_true_eq, q_nat h]
  exact ⟨fun c => absurd ((q_lt (b := 0) h (by omega)).mp c) (by omega), h2⟩
theorem q_alc {n k : Nat} (h : n < k) (h2 : k * 8 ≤ 536870912) : alc (Int32.ofNat k) n = true := by
  unfold alc cpb
  rw [q_alb (by omega) h2, if_neg (fun c => absurd ((q_lt (by omega) (by omega)).mp c) (by omega)), q_nat (show n < 2147483648 by omega), q_nat (show k < 2147483648 by omega)]
  rw [Bool.and_eq_true, Bool.and_eq_true, decide_eq_true_eq, decide_eq_true_eq]
  refine ⟨⟨rfl, fun c => absurd ((q_eq (by omega) (by omega)).mp c) (by omega)⟩, by decide, by decide, fun c => absurd ((q_lt (b := 0) (by omega) (by omega)).mp c) (by omega), ?_, ?_⟩
  · show 0 + n ≤ n
    omega
  · show 0 + n ≤ k
    omega
theorem cpyz_e {f : Nat → Int64} {n k a : Nat} (h : n < k) (hk : k < 2147483648) (ha : a < n) : cpyz f n (Int32.ofNat k) a = f a := by
  unfold cpyz va_cpy
  rw [if_neg (fun c => absurd ((q_lt (by omega) (by omega)).mp c) (by omega)), q_nat (by omega)]
  show (if 0 ≤ a ∧ a < 0 + n then f (0 + (a - 0)) else 0) = f a
  rw [if_pos (by omega), Nat.zero_add, Nat.sub_zero]
theorem len_sum {sz : Nat → Nat} : ∀ l : List Nat, (∀ h, h ∈ l → 1 ≤ sz h) → l.length ≤ (l.map sz).sum := by
  intro l
  induction l with
  | nil => intro _; exact Nat.le_refl _
  | cons x t ih =>
    intro h
    have h1 := ih (fun k m => h k (List.mem_cons_of_mem _ m))
    have h2 := h x (List.mem_cons_self ..)
    rw [List.map_cons, List.sum_cons, List.length_cons]
    omega
def NH (z z1 : Hs) (g : Gh) (h c : Nat) (fl : List Nat) (lh : Nat) : Prop :=
  (z1.lim = z.lim ∧ z1.en = z.en ∧ z1.md = z.md ∧ z1.co = z.co ∧ z1.gb = z.gb ∧ z1.al = z.al) ∧
  (z1.nbt = z.nbt ∧ z1.abt = z.abt ∧ z1.nrf = z.nrf ∧ z1.arf = z.arf) ∧
  (1 ≤ h ∧ h ≤ lh) ∧
  (¬ h ∈ g.hs ++ fl) ∧
  (z1.lh = Int32.ofNat lh) ∧
  (lh < z1.nst) ∧
  (64 ≤ z1.nst ∧ z1.nst ≤ g.lm + 1) ∧
  (z1.nrc = z1.nst) ∧
  (z1.nqu = z1.nst) ∧
  (Chn z1.ast z1.fh fl) ∧
  ((g.hs ++ fl).Nodup) ∧
  (∀ k, k ∈ g.hs ++ fl → 1 ≤ k ∧ k ≤ lh) ∧
  ((g.hs ++ fl).length + 1 = lh) ∧
  (∀ k, hv g k → z1.ast k = z.ast k) ∧
  (∀ k, z1.arc k = 0) ∧
  (c + PH g.lm z.nst ≤ PH g.lm z1.nst)
theorem NH.sc {z z1 : Hs} {g : Gh} {h c : Nat} {fl : List Nat} {lh : Nat} (hyp : NH z z1 g h c fl lh) : z1.lim = z.lim ∧ z1.en = z.en ∧ z1.md = z.md ∧ z1.co = z.co ∧ z1.gb = z.gb ∧ z1.al = z.al := hyp.1
theorem NH.mem {z z1 : Hs} {g : Gh} {h c : Nat} {fl : List Nat} {lh : Nat} (hyp : NH z z1 g h c fl lh) : z1.nbt = z.nbt ∧ z1.abt = z.abt ∧ z1.nrf = z.nrf ∧ z1.arf = z.arf := hyp.2.1
theorem NH.h1 {z z1 : Hs} {g : Gh} {h c : Nat} {fl : List Nat} {lh : Nat} (hyp : NH z z1 g h c fl lh) : 1 ≤ h ∧ h ≤ lh := hyp.2.2.1
theorem NH.nh {z z1 : Hs} {g : Gh} {h c : Nat} {fl : List Nat} {lh : Nat} (hyp : NH z z1 g h c fl lh) : ¬ h ∈ g.hs ++ fl := hyp.2.2.2.1
theorem NH.lh {z z1 : Hs} {g : Gh} {h c : Nat} {fl : List Nat} {lh : Nat} (hyp : NH z z1 g h c fl lh) : z1.lh = Int32.ofNat lh := hyp.2.2.2.2.1
theorem NH.ls {z z1 : Hs} {g : Gh} {h c : Nat} {fl : List Nat} {lh : Nat} (hyp : NH z z1 g h c fl lh) : lh < z1.nst := hyp.2.2.2.2.2.1
theorem NH.sl {z z1 : Hs} {g : Gh} {h c : Nat} {fl : List Nat} {lh : Nat} (hyp : NH z z1 g h c fl lh) : 64 ≤ z1.nst ∧ z1.nst ≤ g.lm + 1 := hyp.2.2.2.2.2.2.1
theorem NH.rc {z z1 : Hs} {g : Gh} {h c : Nat} {fl : List Nat} {lh : Nat} (hyp : NH z z1 g h c fl lh) : z1.nrc = z1.nst := hyp.2.2.2.2.2.2.2.1
theorem NH.qu {z z1 : Hs} {g : Gh} {h c : Nat} {fl : List Nat} {lh : Nat} (hyp : NH z z1 g h c fl lh) : z1.nqu = z1.nst := hyp.2.2.2.2.2.2.2.2.1
theorem NH.chn {z z1 : Hs} {g : Gh} {h c : Nat} {fl : List Nat} {lh : Nat} (hyp : NH z z1 g h c fl lh) : Chn z1.ast z1.fh fl := hyp.2.2.2.2.2.2.2.2.2.1
theorem NH.nd {z z1 : Hs} {g : Gh} {h c : Nat} {fl : List Nat} {lh : Nat} (hyp : NH z z1 g h c fl lh) : (g.hs ++ fl).Nodup := hyp.2.2.2.2.2.2.2.2.2.2.1
theorem NH.rg {z z1 : Hs} {g : Gh} {h c : Nat} {fl : List Nat} {lh : Nat} (hyp : NH z z1 g h c fl lh) : ∀ k, k ∈ g.hs ++ fl → 1 ≤ k ∧ k ≤ lh := hyp.2.2.2.2.2.2.2.2.2.2.2.1
theorem NH.le {z z1 : Hs} {g : Gh} {h c : Nat} {fl : List Nat} {lh : Nat} (hyp : NH z z1 g h c fl lh) : (g.hs ++ fl).length + 1 = lh := hyp.2.2.2.2.2.2.2.2.2.2.2.2.1
theorem NH.st {z z1 : Hs} {g : Gh} {h c : Nat} {fl : List Nat} {lh : Nat} (hyp : NH z z1 g h c fl lh) : ∀ k, hv g k → z1.ast k = z.ast k := hyp.2.2.2.2.2.2.2.2.2.2.2.2.2.1
theorem NH.r0 {z z1 : Hs} {g : Gh} {h c : Nat} {fl : List Nat} {lh : Nat} (hyp : NH z z1 g h c fl lh) : ∀ k, z1.arc k = 0 := hyp.2.2.2.2.2.2.2.2.2.2.2.2.2.2.1
theorem NH.c {z z1 : Hs} {g : Gh} {h c : Nat} {fl : List Nat} {lh : Nat} (hyp : NH z z1 g h c fl lh) : c + PH g.lm z.nst ≤ PH g.lm z1.nst := hyp.2.2.2.2.2.2.2.2.2.2.2.2.2.2.2

theorem nh_e {z : Hs} {g : Gh} (i : HI0 z g) (rc : ∀ h, z.arc h = 0) (room : g.e < 17 + g.lm) : ∃ c z1 h fl lh, hp_newHandle z = some (c, z1, Int32.ofNat h) ∧ NH z z1 g h c fl lh := by
  have hb := i.hb
  have b5 := hb.2.2.2.2.1
  have ls := i.ls
  have sl := i.sl
  have lm := i.lm
  have le := i.le
  rw [List.length_append] at le
  have hnd := i.nd
  unfold hp_newHandle
  cases hfl : g.fl with
  | cons h t =>
    have chn := i.chn
    rw [hfl] at chn
    have hm : h ∈ g.hs ++ g.fl := by rw [hfl]; simp
    have rg := i.rg h hm
    have c1 := chn.1
    rw [hfl] at hnd
    have hnd2 := List.nodup_append.mp hnd
    have hnd3 := List.nodup_cons.mp hnd2.2.1
    refine ⟨0, Hs.sfh z (z.ast h).toInt32, h, t, g.lh, ?_, ⟨rfl, rfl, rfl, rfl, rfl, rfl⟩, ⟨rfl, rfl, rfl, rfl⟩, rg, ?_, i.lh, i.ls, i.sl, i.rc, i.qu, chn.2, ?_, ?_, ?_, fun _ _ => rfl, rc, ?_⟩
    · rw [c1, if_neg (q_ne0 (by omega) (by omega)), q_inb (by omega) (by omega), q_nat (by omega)]
      rfl
    · intro c
      rcases List.mem_append.mp c with c | c
      · exact hnd2.2.2 h c h (List.mem_cons_self ..) rfl
      · exact hnd3.1 c
    · rw [List.nodup_append]
      exact ⟨hnd2.1, hnd3.2, fun a ha b hb2 => hnd2.2.2 a ha b (List.mem_cons_of_mem _ hb2)⟩
    · intro k hk
      refine i.rg k ?_
      rw [hfl]
      rcases List.mem_append.mp hk with c | c
      · exact List.mem_append_left _ c
      · exact List.mem_append_right _ (List.mem_cons_of_mem _ c)
    · rw [hfl, List.length_cons] at le
      rw [List.length_append]
      omega
    · show 0 + PH g.lm z.nst ≤ PH g.lm z.nst
      omega
  | nil =>
    have chn := i.chn
    rw [hfl] at chn
    have chn0 : z.fh = 0 := chn
    rw [hfl] at le hnd
    have hlen : g.lh < g.lm := by
      have h1 := len_sum (sz := g.sz) g.hs (fun h _ => by unfold Gh.sz; omega)
      have h2 := Til_sum i.til
      rw [List.length_nil] at le
      omega
    have hrg : ∀ k, k ∈ g.hs ++ ([] : List Nat) → 1 ≤ k ∧ k ≤ g.lh + 1 := by
      intro k hk
      have := i.rg k (by rw [hfl]; exact hk)
      omega
    have hnot : ¬ (g.lh + 1 ∈ g.hs ++ ([] : List Nat)) := by
      intro c
      have := i.rg (g.lh + 1) (by rw [hfl]; exact c)
      omega
    have e1 : Int32.ofNat g.lh + 1 = Int32.ofNat (g.lh + 1) := q_add g.lh 1
    rw [chn0, if_pos rfl, i.lh, e1]
    by_cases hlt : g.lh + 1 < z.nst
    · refine ⟨0, Hs.slh z (Int32.ofNat (g.lh + 1)), g.lh + 1, [], g.lh + 1, ?_, ⟨rfl, rfl, rfl, rfl, rfl, rfl⟩, ⟨rfl, rfl, rfl, rfl⟩, by omega, hnot, rfl, hlt, i.sl, i.rc, i.qu, chn0, hnd, hrg, ?_, fun _ _ => rfl, rc, ?_⟩
      · rw [if_pos ((q_lt (by omega) (by omega)).mpr hlt)]
      · rw [List.length_append]; omega
      · show 0 + PH g.lm z.nst ≤ PH g.lm z.nst
        omega
    · have hns : z.nst = g.lh + 1 := by omega
      rw [if_neg (fun c => hlt ((q_lt (by omega) (by omega)).mp c))]
      obtain ⟨r, hr⟩ : ∃ r, r = min (g.lm + 1) (2 * z.nst) := ⟨_, rfl⟩
      have hr1 : z.nst < r ∧ r ≤ g.lm + 1 ∧ r ≤ 2 * z.nst ∧ (r = g.lm + 1 ∨ r = 2 * z.nst) := by omega
      have hmin : (if z.lim + 1 < 2 * Int32.ofNat z.nst then z.lim + 1 else 2 * Int32.ofNat z.nst) = Int32.ofNat r := by
        have e2 : Int32.ofNat g.lm + 1 = Int32.ofNat (g.lm + 1) := q_add g.lm 1
        have e3 : 2 * Int32.ofNat z.nst = Int32.ofNat (2 * z.nst) := q_mul 2 z.nst
        rw [i.lim, e2, e3]
        by_cases hc : g.lm + 1 < 2 * z.nst
        · rw [if_pos ((q_lt (by omega) (by omega)).mpr hc)]
          congr 1; omega
        · rw [if_neg (fun c => hc ((q_lt (by omega) (by omega)).mp c))]
          congr 1; omega
      have hext : hp_extendHandles (Hs.slh z (Int32.ofNat (g.lh + 1))) = some (r + (r + (r + 0)), Hs.wqu (Hs.snqu (Hs.wrc (Hs.snrc (Hs.wst (Hs.snst (Hs.slh z (Int32.ofNat (g.lh + 1))) r) (cpyz z.ast z.nst (Int32.ofNat r))) r) (fun _ => 0)) r) (fun _ => 0), ()) := by
        unfold hp_extendHandles
        show b0 (some (if z.lim + 1 < 2 * Int32.ofNat z.nst then z.lim + 1 else 2 * Int32.ofNat z.nst)) _ = _
        rw [hmin, PB.2.1]
        show gd (alc (Int32.ofNat r) z.nst) _ = _
        rw [q_alc (by omega) (by omega), q_alb (by omega) (by omega), q_alb (by omega) (by omega), q_nat (by omega)]
        rfl
      refine ⟨r + (r + (r + 0)) + 0, Hs.wqu (Hs.snqu (Hs.wrc (Hs.snrc (Hs.wst (Hs.snst (Hs.slh z (Int32.ofNat (g.lh + 1))) r) (cpyz z.ast z.nst (Int32.ofNat r))) r) (fun _ => 0)) r) (fun _ => 0), g.lh + 1, [], g.lh + 1, ?_, ⟨rfl, rfl, rfl, rfl, rfl, rfl⟩, ⟨rfl, rfl, rfl, rfl⟩, by omega, hnot, rfl, show g.lh + 1 < r by omega, ⟨show 64 ≤ r by omega, show r ≤ _ by omega⟩, rfl, rfl, chn0, hnd, hrg, ?_, ?_, fun _ => rfl, ?_⟩
      · rw [hext, PB.2.2.2.2.2.2.2.2.1]
        rfl
      · rw [List.length_append]; omega
      · intro k hk
        have := (i.hok hk).1
        exact cpyz_e (by omega) (by omega) this
      · show r + (r + (r + 0)) + 0 + PH g.lm z.nst ≤ PH g.lm r
        unfold PH
        rw [if_neg (by omega)]
        split <;> omega
theorem ew_l64 {z : Hs} {n : Nat} (hn : z.nrf ≤ n) (hn2 : n ≤ 131089) (hf : ∀ a, z.arf a = 0 ∨ z.arf a = 1) : ∀ k i fu, i + k = z.nrf → k < fu →
    hp_extendWords_l64 fu (Int32.ofNat i) n (fun a => if a < i then z.arf a else 0) z = some (0, Hs.wrf (Hs.snrf z n) (fun a => if a < z.nrf then z.arf a else 0), ()) := by
  intro k
  induction k with
  | zero =>
    intro i fu hi hfu
    obtain ⟨m, rfl⟩ : ∃ m, fu = m + 1 := ⟨fu - 1, by omega⟩
    have : i = z.nrf := by omega
    subst this
    rw [hp_extendWords_l64, if_pos ((q_le (by omega) (by omega)).mpr (Nat.le_refl _))]
  | succ k ih =>
    intro i fu hi hfu
    obtain ⟨m, rfl⟩ : ∃ m, fu = m + 1 := ⟨fu - 1, by omega⟩
    have e1 : Int32.ofNat i + 1 = Int32.ofNat (i + 1) := q_add i 1
    rw [hp_extendWords_l64, if_neg (fun c => absurd ((q_le (by omega) (by omega)).mp c) (by omega)), q_inb (show i < z.nrf by omega) (by omega), q_inb (show i < n by omega) (by omega), q_nat (by omega), narf (hf _), e1]
    have := ih (i + 1) m (by omega) (by omega)
    rw [← this]
    show hp_extendWords_l64 _ _ _ _ _ = _
    congr 1
    funext a
    unfold upd
    by_cases h1 : a = i
    · rw [if_pos h1, if_pos (by omega), h1]
    · rw [if_neg h1]
      show (if a < i then z.arf a else 0) = _
      by_cases h2 : a < i
      · rw [if_pos h2, if_pos (by omega)]
      · rw [if_neg h2, if_neg (by omega)]
theorem ew_l21 {z : Hs} {n mo : Nat} (hmo : mo ≤ 131089) (hn : n ≤ mo) : ∀ d j fu, j + d = 12 → d < fu →
    ∃ j2, j2 ≤ 12 ∧ hp_extendWords_l21 fu (Int32.ofNat n) (Int32.ofNat mo) (Int32.ofNat (64 * 2 ^ j)) z = hp_extendWords_j38 (Int32.ofNat mo) (Int32.ofNat (64 * 2 ^ j2)) z ∧ (n ≤ 64 * 2 ^ j2 ∨ mo ≤ 64 * 2 ^ j2) := by
  intro d
  induction d with
  | zero =>
    intro j fu hj hfu
    obtain ⟨m, rfl⟩ : ∃ m, fu = m + 1 := ⟨fu - 1, by omega⟩
    have : j = 12 := by omega
    subst this
    refine ⟨12, Nat.le_refl _, ?_, Or.inr (by omega)⟩
    rw [hp_extendWords_l21, if_pos ((q_le (by omega) (by omega)).mpr (by omega))]
  | succ d ih =>
    intro j fu hj hfu
    obtain ⟨m, rfl⟩ : ∃ m, fu = m + 1 := ⟨fu - 1, by omega⟩
    have hp : 2 ^ j ≤ 2 ^ 12 := Nat.pow_le_pow_right (by omega) (by omega)
    have hp2 : (2 : Nat) ^ 12 = 4096 := rfl
    by_cases h1 : n ≤ 64 * 2 ^ j
    · refine ⟨j, by omega, ?_, Or.inl h1⟩
      rw [hp_extendWords_l21, if_pos ((q_le (by omega) (by omega)).mpr h1)]
    · by_cases h2 : mo ≤ 64 * 2 ^ j
      · refine ⟨j, by omega, ?_, Or.inr h2⟩
        rw [hp_extendWords_l21, if_neg (fun c => h1 ((q_le (by omega) (by omega)).mp c)), if_pos ((q_le (by omega) (by omega)).mpr h2)]
      · obtain ⟨j2, a1, a2, a3⟩ := ih (j + 1) m (by omega) (by omega)
        refine ⟨j2, a1, ?_, a3⟩
        rw [hp_extendWords_l21, if_neg (fun c => h1 ((q_le (by omega) (by omega)).mp c)), if_neg (fun c => h2 ((q_le (by omega) (by omega)).mp c))]
        have e : Int32.ofNat (64 * 2 ^ j) * 2 = Int32.ofNat (64 * 2 ^ (j + 1)) := by
          have := q_mul (64 * 2 ^ j) 2
          rw [Nat.mul_assoc, ← Nat.pow_succ] at this
          exact this
        rw [e]
        exact a2
def pw2 (lm n : Nat) : Prop := n = 17 + lm ∨ ∃ k, n = 64 * 2 ^ k
def EW (z z1 : Hs) (lm n c : Nat) : Prop :=
  (z1.lim = z.lim ∧ z1.en = z.en ∧ z1.md = z.md ∧ z1.co = z.co ∧ z1.gb = z.gb ∧ z1.al = z.al ∧ z1.lh = z.lh ∧ z1.fh = z.fh ∧ z1.nst = z.nst ∧ z1.ast = z.ast ∧ z1.nrc = z.nrc ∧ z1.arc = z.arc ∧ z1.nqu = z.nqu) ∧
  (z1.nrf = z1.nbt) ∧
  (n ≤ z1.nbt ∧ z.nbt ≤ z1.nbt ∧ z1.nbt ≤ 17 + lm) ∧
  (∀ a, a < z.nbt → z1.abt a = z.abt a ∧ z1.arf a = z.arf a) ∧
  (∀ a, z1.arf a = 0 ∨ z1.arf a = 1) ∧
  (c + PW lm z.nbt ≤ PW lm z1.nbt) ∧
  (pw2 lm z1.nbt)
theorem EW.sc {z z1 : Hs} {lm n c : Nat} (hyp : EW z z1 lm n c) : z1.lim = z.lim ∧ z1.en = z.en ∧ z1.md = z.md ∧ z1.co = z.co ∧ z1.gb = z.gb ∧ z1.al = z.al ∧ z1.lh = z.lh ∧ z1.fh = z.fh ∧ z1.nst = z.nst ∧ z1.ast = z.ast ∧ z1.nrc = z.nrc ∧ z1.arc = z.arc ∧ z1.nqu = z.nqu := hyp.1
theorem EW.rb {z z1 : Hs} {lm n c : Nat} (hyp : EW z z1 lm n c) : z1.nrf = z1.nbt := hyp.2.1
theorem EW.nb {z z1 : Hs} {lm n c : Nat} (hyp : EW z z1 lm n c) : n ≤ z1.nbt ∧ z.nbt ≤ z1.nbt ∧ z1.nbt ≤ 17 + lm := hyp.2.2.1
theorem EW.wd {z z1 : Hs} {lm n c : Nat} (hyp : EW z z1 lm n c) : ∀ a, a < z.nbt → z1.abt a = z.abt a ∧ z1.arf a = z.arf a := hyp.2.2.2.1
theorem EW.ff {z z1 : Hs} {lm n c : Nat} (hyp : EW z z1 lm n c) : ∀ a, z1.arf a = 0 ∨ z1.arf a = 1 := hyp.2.2.2.2.1
theorem EW.c {z z1 : Hs} {lm n c : Nat} (hyp : EW z z1 lm n c) : c + PW lm z.nbt ≤ PW lm z1.nbt := hyp.2.2.2.2.2.1
theorem EW.pw {z z1 : Hs} {lm n c : Nat} (hyp : EW z z1 lm n c) : pw2 lm z1.nbt := hyp.2.2.2.2.2.2

theorem ew_e {z : Hs} {lm n : Nat} (b : hb z) (hl : z.lim = Int32.ofNat lm) (hlm : lm ≤ 131072) (hbl : z.nbt ≤ 17 + lm) (hn : n ≤ 17 + lm) (pw : pw2 lm z.nbt) : ∃ c z1, hp_extendWords z (Int32.ofNat n) = some (c, z1, ()) ∧ EW z z1 lm n c := by
  obtain ⟨b1, b2, b3, b4, b5, b6⟩ := b
  unfold hp_extendWords
  by_cases hc : z.nbt < n
  · rw [if_pos ((q_lt (by omega) (by omega)).mpr hc), hl]
    have e17 : 17 + Int32.ofNat lm = Int32.ofNat (17 + lm) := q_add 17 lm
    rw [e17]
    obtain ⟨j, j1, j2, j3⟩ := ew_l21 (z := z) (n := n) (mo := 17 + lm) (by omega) hn 12 0 FU (by omega) (by unfold FU; omega)
    have e64 : (64 : Int32) = Int32.ofNat (64 * 2 ^ 0) := rfl
    rw [e64, j2]
    have hp : 2 ^ j ≤ 2 ^ 12 := Nat.pow_le_pow_right (by omega) (by omega)
    have hp2 : (2 : Nat) ^ 12 = 4096 := rfl
    obtain ⟨r, hr⟩ : ∃ r, r = min (17 + lm) (64 * 2 ^ j) := ⟨_, rfl⟩
    have hr1 : n ≤ r ∧ r ≤ 17 + lm ∧ (r = 17 + lm ∨ r = 64 * 2 ^ j) := by omega
    have hmin : (if Int32.ofNat (17 + lm) < Int32.ofNat (64 * 2 ^ j) then Int32.ofNat (17 + lm) else Int32.ofNat (64 * 2 ^ j)) = Int32.ofNat r := by
      by_cases hc : 17 + lm < 64 * 2 ^ j
      · rw [if_pos ((q_lt (by omega) (by omega)).mpr hc)]
        congr 1; omega
      · rw [if_neg (fun c => hc ((q_lt (by omega) (by omega)).mp c))]
        congr 1; omega
    have l64 := ew_l64 (z := Hs.wbt (Hs.snbt z r) (cpyz z.abt z.nbt (Int32.ofNat r))) (n := r) (show z.nrf ≤ r by omega) (by omega) b6 z.nrf 0 FU (show 0 + z.nrf = z.nrf by omega) (by unfold FU; omega)
    have hz0 : (fun a => if a < 0 then Hs.arf (Hs.wbt (Hs.snbt z r) (cpyz z.abt z.nbt (Int32.ofNat r))) a else 0) = (fun _ => (0 : Int32)) := by
      funext a
      rw [if_neg (by omega)]
    rw [hz0] at l64
    refine ⟨r + (r + 0), Hs.wrf (Hs.snrf (Hs.wbt (Hs.snbt z r) (cpyz z.abt z.nbt (Int32.ofNat r))) r) (fun a => if a < z.nrf then z.arf a else 0), ?_, ⟨rfl, rfl, rfl, rfl, rfl, rfl, rfl, rfl, rfl, rfl, rfl, rfl, rfl⟩, rfl, ⟨hr1.1, show z.nbt ≤ r by omega, hr1.2.1⟩, ?_, ?_, ?_, ?_⟩
    · unfold hp_extendWords_j38
      rw [hmin, PB.2.1, q_alc (by omega) (by omega), q_alb (by omega) (by omega), q_nat (by omega)]
      have e0 : (0 : Int32) = Int32.ofNat 0 := rfl
      rw [← e0] at l64
      rw [l64]
      rfl
    · intro a ha
      refine ⟨cpyz_e (by omega) (by omega) ha, if_pos (by omega)⟩
    · intro a
      show (if a < z.nrf then z.arf a else 0) = 0 ∨ (if a < z.nrf then z.arf a else 0) = 1
      split
      · exact b6 a
      · exact Or.inl rfl
    · show r + (r + 0) + PW lm z.nbt ≤ PW lm r
      unfold PW
      rw [if_neg (show ¬ z.nbt = 17 + lm by omega)]
      by_cases hr3 : r = 17 + lm
      · rw [if_pos hr3]; omega
      · rw [if_neg hr3]
        have hr4 : r = 64 * 2 ^ j := by omega
        rcases pw with pw | ⟨k, pw⟩
        · omega
        · have hlt : 2 ^ k < 2 ^ j := by omega
          have hkj : k < j := (Nat.pow_lt_pow_iff_right (by omega)).mp hlt
          have : 2 ^ (k + 1) ≤ 2 ^ j := Nat.pow_le_pow_right (by omega) hkj
          rw [Nat.pow_succ] at this
          omega
    · show pw2 lm r
      rcases hr1.2.2 with c | c
      · exact Or.inl c
      · exact Or.inr ⟨j, c⟩
  · rw [if_neg (fun c => hc ((q_lt (by omega) (by omega)).mp c))]
    refine ⟨0, z, rfl, ⟨rfl, rfl, rfl, rfl, rfl, rfl, rfl, rfl, rfl, rfl, rfl, rfl, rfl⟩, b1, ⟨by omega, Nat.le_refl _, hbl⟩, fun _ _ => ⟨rfl, rfl⟩, b6, by omega, pw⟩
/-- the class's memory outside a collection -/
def HI (z : Hs) (g : Gh) : Prop := HI0 z g ∧ (∀ h, z.arc h = 0) ∧ pw2 g.lm z.nbt
def HP (z : Hs) (g : Gh) : Nat := PH g.lm z.nst + PW g.lm z.nbt
/-- a new block -/
def gnew (g : Gh) (h kd ln nu : Nat) (fl : List Nat) (lh : Nat) : Gh := ((((((((((g.s_hs (g.hs ++ [h])).s_fl fl).s_st (updN g.st h g.e)).s_kd (updN g.kd h kd)).s_fr (updN g.fr h 0)).s_ln (updN g.ln h ln)).s_nu (updN g.nu h nu)).s_e (g.e + (1 + (if kd = 3 then (ln + 7) / 8 else ln)))).s_lh lh))
def Pl (z z2 : Hs) (g : Gh) (h kd ln nu c : Nat) (fl : List Nat) (lh : Nat) : Prop :=
  (HI z2 (gnew g h kd ln nu fl lh)) ∧
  (h ≠ 0) ∧
  (¬ h ∈ g.hs) ∧
  (∀ a, a < g.e → z2.abt a = z.abt a ∧ z2.arf a = z.arf a) ∧
  (∀ a, g.e < a → a < g.e + (1 + (if kd = 3 then (ln + 7) / 8 else ln)) → z2.abt a = 0 ∧ z2.arf a = 0) ∧
  (z2.co = z.co ∧ z2.gb = z.gb ∧ z2.al = z.al) ∧
  (z2.md = if kd = 5 then z.md else z.md + 1) ∧
  (c + HP z g ≤ HP z2 (gnew g h kd ln nu fl lh))
theorem Pl.i {z z2 : Hs} {g : Gh} {h kd ln nu c : Nat} {fl : List Nat} {lh : Nat} (hyp : Pl z z2 g h kd ln nu c fl lh) : HI z2 (gnew g h kd ln nu fl lh) := hyp.1
theorem Pl.h0 {z z2 : Hs} {g : Gh} {h kd ln nu c : Nat} {fl : List Nat} {lh : Nat} (hyp : Pl z z2 g h kd ln nu c fl lh) : h ≠ 0 := hyp.2.1
theorem Pl.nh {z z2 : Hs} {g : Gh} {h kd ln nu c : Nat} {fl : List Nat} {lh : Nat} (hyp : Pl z z2 g h kd ln nu c fl lh) : ¬ h ∈ g.hs := hyp.2.2.1
theorem Pl.lo {z z2 : Hs} {g : Gh} {h kd ln nu c : Nat} {fl : List Nat} {lh : Nat} (hyp : Pl z z2 g h kd ln nu c fl lh) : ∀ a, a < g.e → z2.abt a = z.abt a ∧ z2.arf a = z.arf a := hyp.2.2.2.1
theorem Pl.hi {z z2 : Hs} {g : Gh} {h kd ln nu c : Nat} {fl : List Nat} {lh : Nat} (hyp : Pl z z2 g h kd ln nu c fl lh) : ∀ a, g.e < a → a < g.e + (1 + (if kd = 3 then (ln + 7) / 8 else ln)) → z2.abt a = 0 ∧ z2.arf a = 0 := hyp.2.2.2.2.1
theorem Pl.sc {z z2 : Hs} {g : Gh} {h kd ln nu c : Nat} {fl : List Nat} {lh : Nat} (hyp : Pl z z2 g h kd ln nu c fl lh) : z2.co = z.co ∧ z2.gb = z.gb ∧ z2.al = z.al := hyp.2.2.2.2.2.1
theorem Pl.md {z z2 : Hs} {g : Gh} {h kd ln nu c : Nat} {fl : List Nat} {lh : Nat} (hyp : Pl z z2 g h kd ln nu c fl lh) : z2.md = if kd = 5 then z.md else z.md + 1 := hyp.2.2.2.2.2.2.1
theorem Pl.c {z z2 : Hs} {g : Gh} {h kd ln nu c : Nat} {fl : List Nat} {lh : Nat} (hyp : Pl z z2 g h kd ln nu c fl lh) : c + HP z g ≤ HP z2 (gnew g h kd ln nu fl lh) := hyp.2.2.2.2.2.2.2

theorem pl_e {z : Hs} {g : Gh} {kd ln md nu : Nat} (i : HI z g) (hk : 2 ≤ kd ∧ kd ≤ 5) (hln : ln ≤ 131072) (room : g.e + (1 + (if kd = 3 then (ln + 7) / 8 else ln)) ≤ 17 + g.lm) (hmd : z.md = Int32.ofNat md) (hmd2 : md + 1 < 8388608) (hnu : nu = if kd = 5 then 0 else md + 1) :
    ∃ c z2 h fl lh, hp_place z (Int32.ofNat kd) (Int32.ofNat ln) = some (c, z2, Int32.ofNat h) ∧ Pl z z2 g h kd ln nu c fl lh := by
  obtain ⟨i, rc, pw⟩ := i
  obtain ⟨s, hs⟩ : ∃ s, s = 1 + (if kd = 3 then (ln + 7) / 8 else ln) := ⟨_, rfl⟩
  rw [← hs] at room
  have s1 : 1 ≤ s := by omega
  have lm := i.lm
  obtain ⟨c1, z1, h, fl, lh, e1, N⟩ := nh_e i rc (by omega)
  obtain ⟨n1, n2, n3, n4, n5, n6⟩ := N.sc
  obtain ⟨m1, m2, m3, m4⟩ := N.mem
  have hb1 : hb z1 := ⟨by rw [m3, m1]; exact i.rb, by rw [m1]; exact i.hb.2.1, N.rc, N.qu, by have := N.sl; omega, by rw [m4]; exact i.fl⟩
  have nbl := i.bl
  have el := i.el
  have eb := i.eb
  obtain ⟨c2, z3, e2, E⟩ := ew_e (z := z1) (lm := g.lm) (n := g.e + s) hb1 (by rw [n1]; exact i.lim) (by omega) (by rw [m1]; omega) room (by rw [m1]; exact pw)
  obtain ⟨p1, p2, p3, p4, p5, p6, p7, p8, p9, p10, p11, p12, p13⟩ := E.sc
  have nb := E.nb
  have hb3 : hb z3 := ⟨E.rb, by omega, by rw [p11, p9]; exact N.rc, by rw [p13, p9]; exact N.qu, by rw [p9]; have := N.sl; omega, E.ff⟩
  have e3 := hp_clearWords_e (z := z3) (a := g.e) (n := s) hb3 nb.1
  have hh1 := N.h1
  have hls := N.ls
  have hsl := N.sl
  have hok : hdok nu ln 0 kd h := by
    refine ⟨?_, by omega, by omega, by omega, by omega⟩
    rw [hnu]; split <;> omega
  have hhe : 17 ≤ g.e := Til_le i.til
  have hnh : ¬ h ∈ g.hs := fun c => N.nh (List.mem_append_left _ c)
  have hwd : ∀ a, a < g.e → z3.abt a = z.abt a ∧ z3.arf a = z.arf a := by
    intro a ha
    have := E.wd a (by rw [m1]; omega)
    rw [m2, m4] at this
    exact this
  -- the last step
  have hj : ∀ (zz : Hs), zz.nbt = z3.nbt → zz.nst = z3.nst → hp_place_j60 (Int32.ofNat kd) (Int32.ofNat ln) (Int32.ofNat h) (Int32.ofNat g.e) (Int32.ofNat s) (Int64.ofNat nu) zz = some (0, Hs.wst (Hs.wbt (Hs.sen zz (Int32.ofNat (g.e + s))) (vp_updL zz.abt g.e (Int64.ofNat (hdr nu ln 0 kd h)))) (vp_updL zz.ast h (Int64.ofNat g.e)), Int32.ofNat h) := by
    intro zz hz1 hz2
    unfold hp_place_j60
    rw [q_inb (show g.e < zz.nbt by omega) (by omega), q_inb (show h < zz.nst by rw [hz2, p9]; omega) (by rw [hz2, p9]; omega), q_nat (by omega), q_nat (by omega), q_64 (by omega), q_64 (by omega), q_64 (by omega), q_64 (by omega), hdr_mk hok, q_add]
    rfl
  have hfin : ∃ z5, hp_place z (Int32.ofNat kd) (Int32.ofNat ln) = some (c1 + (c2 + 0), z5, Int32.ofNat h) ∧ z5 = Hs.wst (Hs.wbt (Hs.sen (Hs.smd (Hs.wm z3 (filN z3.abt g.e (g.e + s) 0) (filN z3.arf g.e (g.e + s) 0)) (if kd = 5 then z.md else z.md + 1)) (Int32.ofNat (g.e + s))) (vp_updL (filN z3.abt g.e (g.e + s) 0) g.e (Int64.ofNat (hdr nu ln 0 kd h)))) (vp_updL z3.ast h (Int64.ofNat g.e)) := by
    refine ⟨_, ?_, rfl⟩
    unfold hp_place
    rw [e1, PB.2.2.2.2.2.2.2.2.1, hp_sizeOf_e (by omega) (by omega), PB.2.1, ← hs, n2, i.en, q_add, e2, PB.2.2.2.2.2.2.2.2.1, e3, PB.2.2.2.2.1]
    by_cases h5 : kd = 5
    · rw [if_pos (show Int32.ofNat kd = 5 from by rw [h5]; rfl)]
      have hn0 : nu = 0 := by rw [hnu, if_pos h5]
      subst hn0
      refine (congrArg (fun t => addc c1 (addc c2 t)) (hj (Hs.wm z3 (filN z3.abt g.e (g.e + s) 0) (filN z3.arf g.e (g.e + s) 0)) rfl rfl)).trans ?_
      rw [if_pos h5, ← n3, ← p3]
      rfl
    · rw [if_neg (show ¬ (Int32.ofNat kd = 5) from q_nek 5 (by omega) (by omega) h5)]
      have e4 : (Hs.md (Hs.wm z3 (filN z3.abt g.e (g.e + s) 0) (filN z3.arf g.e (g.e + s) 0)) + 1) = Int32.ofNat (md + 1) := by
        show z3.md + 1 = _
        rw [p3, n3, hmd]
        exact q_add md 1
      have e5 : z.md + 1 = Int32.ofNat (md + 1) := by rw [hmd]; exact q_add md 1
      rw [e4, q_64 (by omega), show md + 1 = nu from by rw [hnu, if_neg h5], hj (Hs.smd (Hs.wm z3 (filN z3.abt g.e (g.e + s) 0) (filN z3.arf g.e (g.e + s) 0)) (Int32.ofNat nu)) rfl rfl, if_neg h5, e5, show md + 1 = nu from by rw [hnu, if_neg h5]]
      rfl
  obtain ⟨z5, f1, f2⟩ := hfin
  refine ⟨_, z5, h, fl, lh, f1, ?_⟩
  subst f2
  have hst : ∀ k, k ≠ h → updN g.st h g.e k = g.st k := fun k hk => updN_o _ _ hk
  have hhs : ∀ k, hv g k → k ≠ h := by
    intro k v c
    subst c
    rcases v with v | v
    · omega
    · exact hnh v
  have hszk : ∀ k, k ≠ h → (gnew g h kd ln nu fl lh).sz k = g.sz k := by
    intro k hk
    unfold Gh.sz
    show 1 + (if updN g.kd h kd k = 3 then (updN g.ln h ln k + 7) / 8 else updN g.ln h ln k) = _
    rw [updN_o _ _ hk, updN_o _ _ hk]
  have hszh : (gnew g h kd ln nu fl lh).sz h = s := by
    unfold Gh.sz
    show 1 + (if updN g.kd h kd h = 3 then (updN g.ln h ln h + 7) / 8 else updN g.ln h ln h) = _
    rw [updN_s, updN_s, hs]
  refine ⟨⟨⟨i.lm, ?_, ?_, ?_, ?_, ?_, ?_, ?_, ?_, ?_, ?_, ?_, ?_, ?_, ?_, ?_, ?_, ?_, ?_, ?_⟩, ?_, ?_⟩, by omega, hnh, ?_, ?_, ?_, rfl, ?_⟩
  · exact p1.trans (n1.trans i.lim)
  · show Int32.ofNat (g.e + s) = Int32.ofNat (g.e + _)
    rw [hs]
  · show g.e + _ ≤ _
    rw [← hs]; exact room
  · show g.e + _ ≤ z3.nbt
    rw [← hs]; exact nb.1
  · exact E.rb
  · show 64 ≤ z3.nbt ∧ z3.nbt ≤ 17 + g.lm
    omega
  · exact p11.trans (N.rc.trans p9.symm)
  · exact p13.trans (N.qu.trans p9.symm)
  · show 64 ≤ z3.nst ∧ z3.nst ≤ g.lm + 1
    rw [p9]; exact N.sl
  · intro a
    show filN z3.arf g.e (g.e + s) 0 a = 0 ∨ filN z3.arf g.e (g.e + s) 0 a = 1
    unfold filN
    split
    · exact Or.inl rfl
    · exact E.ff a
  · show Til (updN g.st h g.e) (gnew g h kd ln nu fl lh).sz 17 (g.hs ++ [h]) (g.e + _)
    rw [← hs, ← hszh]
    refine Til_snoc (Til_congr ?_ i.til) (updN_s _ _ _)
    intro k hk
    have : k ≠ h := fun c => hnh (c ▸ hk)
    exact ⟨updN_o _ _ this, hszk k this⟩
  · intro k v
    by_cases hkh : k = h
    · subst hkh
      refine ⟨?_, ?_, ?_, ?_, ?_, ?_, ?_⟩
      · show vp_updL z3.ast k (Int64.ofNat g.e) k = Int64.ofNat (updN g.st k g.e k)
        rw [updN_s]
        exact if_pos rfl
      · show vp_updL (filN z3.abt g.e (g.e + s) 0) g.e (Int64.ofNat (hdr nu ln 0 kd k)) (updN g.st k g.e k) = Int64.ofNat (hdr (updN g.nu k nu k) (updN g.ln k ln k) (updN g.fr k 0 k) (updN g.kd k kd k) k)
        rw [updN_s, updN_s, updN_s, updN_s, updN_s]
        exact if_pos rfl
      · show 1 ≤ updN g.kd k kd k
        rw [updN_s]; omega
      · show updN g.kd k kd k ≤ 5
        rw [updN_s]; omega
      · show updN g.fr k 0 k ≤ 1
        rw [updN_s]; omega
      · show updN g.ln k ln k ≤ 131072
        rw [updN_s]; omega
      · show updN g.nu k nu k < 8388608
        rw [updN_s]; exact hok.1
    · have v0 : hv g k := by
        rcases v with v | v
        · exact Or.inl v
        · rcases List.mem_append.mp (show k ∈ g.hs ++ [h] from v) with c | c
          · exact Or.inr c
          · exact absurd (List.mem_singleton.mp c) hkh
      have d := i.hd k v0
      have hlt : g.st k < g.e := by
        rcases v0 with rfl | v0
        · have := i.h0.1; omega
        · have := Til_mem i.til v0
          have : 1 ≤ g.sz k := by unfold Gh.sz; omega
          omega
      refine ⟨?_, ?_, ?_, ?_, ?_, ?_, ?_⟩
      · show vp_updL z3.ast h (Int64.ofNat g.e) k = Int64.ofNat (updN g.st h g.e k)
        rw [updN_o _ _ hkh, show vp_updL z3.ast h (Int64.ofNat g.e) k = z3.ast k from if_neg hkh, p10, N.st k v0]
        exact d.st
      · show vp_updL (filN z3.abt g.e (g.e + s) 0) g.e (Int64.ofNat (hdr nu ln 0 kd h)) (updN g.st h g.e k) = Int64.ofNat (hdr (updN g.nu h nu k) (updN g.ln h ln k) (updN g.fr h 0 k) (updN g.kd h kd k) k)
        rw [updN_o _ _ hkh, updN_o _ _ hkh, updN_o _ _ hkh, updN_o _ _ hkh, updN_o _ _ hkh]
        rw [show vp_updL (filN z3.abt g.e (g.e + s) 0) g.e (Int64.ofNat (hdr nu ln 0 kd h)) (g.st k) = filN z3.abt g.e (g.e + s) 0 (g.st k) from if_neg (by omega), show filN z3.abt g.e (g.e + s) 0 (g.st k) = z3.abt (g.st k) from if_neg (by omega), (hwd _ hlt).1]
        exact d.hd
      · show 1 ≤ updN g.kd h kd k
        rw [updN_o _ _ hkh]; exact d.k1
      · show updN g.kd h kd k ≤ 5
        rw [updN_o _ _ hkh]; exact d.k5
      · show updN g.fr h 0 k ≤ 1
        rw [updN_o _ _ hkh]; exact d.f1
      · show updN g.ln h ln k ≤ 131072
        rw [updN_o _ _ hkh]; exact d.l1
      · show updN g.nu h nu k < 8388608
        rw [updN_o _ _ hkh]; exact d.n1
  · show updN g.st h g.e 0 = 16 ∧ updN g.kd h kd 0 = 1 ∧ updN g.ln h ln 0 = 0 ∧ updN g.nu h nu 0 = 0 ∧ updN g.fr h 0 0 = 0
    have : 0 ≠ h := by omega
    rw [updN_o _ _ this, updN_o _ _ this, updN_o _ _ this, updN_o _ _ this, updN_o _ _ this]
    exact i.h0
  · exact p7.trans N.lh
  · show lh < z3.nst
    rw [p9]; exact N.ls
  · show Chn (vp_updL z3.ast h (Int64.ofNat g.e)) z3.fh fl
    rw [p8]
    refine Chn_congr ?_ N.chn
    intro k hk
    have : k ≠ h := fun c => N.nh (List.mem_append_right _ (c ▸ hk))
    rw [show vp_updL z3.ast h (Int64.ofNat g.e) k = z3.ast k from if_neg this, p10]
  · show (g.hs ++ [h] ++ fl).Nodup
    have hp : (g.hs ++ [h] ++ fl).Perm (h :: (g.hs ++ fl)) := by
      rw [List.append_assoc]
      exact List.perm_middle
    rw [hp.nodup_iff, List.nodup_cons]
    exact ⟨N.nh, N.nd⟩
  · intro k hk
    have : k = h ∨ k ∈ g.hs ++ fl := by
      rcases List.mem_append.mp (show k ∈ g.hs ++ [h] ++ fl from hk) with c | c
      · rcases List.mem_append.mp c with c | c
        · exact Or.inr (List.mem_append_left _ c)
        · exact Or.inl (List.mem_singleton.mp c)
      · exact Or.inr (List.mem_append_right _ c)
    rcases this with rfl | c
    · exact N.h1
    · exact N.rg k c
  · show (g.hs ++ [h] ++ fl).length = lh
    have := N.le
    rw [List.length_append] at this
    rw [List.length_append, List.length_append, List.length_singleton]
    omega
  · intro k
    show z3.arc k = 0
    rw [p12]; exact N.r0 k
  · exact E.pw
  · intro a ha
    refine ⟨?_, ?_⟩
    · show vp_updL (filN z3.abt g.e (g.e + s) 0) g.e _ a = _
      rw [show vp_updL (filN z3.abt g.e (g.e + s) 0) g.e (Int64.ofNat (hdr nu ln 0 kd h)) a = filN z3.abt g.e (g.e + s) 0 a from if_neg (by omega), show filN z3.abt g.e (g.e + s) 0 a = z3.abt a from if_neg (by omega)]
      exact (hwd a ha).1
    · show filN z3.arf g.e (g.e + s) 0 a = _
      rw [show filN z3.arf g.e (g.e + s) 0 a = z3.arf a from if_neg (by omega)]
      exact (hwd a ha).2
  · intro a h1 h2
    rw [← hs] at h2
    refine ⟨?_, ?_⟩
    · show vp_updL (filN z3.abt g.e (g.e + s) 0) g.e _ a = _
      rw [show vp_updL (filN z3.abt g.e (g.e + s) 0) g.e (Int64.ofNat (hdr nu ln 0 kd h)) a = filN z3.abt g.e (g.e + s) 0 a from if_neg (by omega)]
      exact if_pos (by omega)
    · exact if_pos (show g.e ≤ a ∧ a < g.e + s by omega)
  · exact ⟨p4.trans n4, p5.trans n5, p6.trans n6⟩
  · show c1 + (c2 + 0) + (PH g.lm z.nst + PW g.lm z.nbt) ≤ PH g.lm z3.nst + PW g.lm z3.nbt
    have k1 := N.c
    have k2 := E.c
    rw [m1] at k2
    rw [p9]
    omega
