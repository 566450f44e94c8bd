/-! Words of memory: what the small methods do, over Nat. -/
def Hs.wm (z : Hs) (b : Nat → Int64) (f : Nat → Int32) : Hs := Hs.wrf (Hs.wbt z b) f
theorem HsM : (∀ (z : Hs) b f, Hs.abt (Hs.wm z b f) = b) ∧ (∀ (z : Hs) b f, Hs.arf (Hs.wm z b f) = f) ∧
  (∀ (z : Hs) b f, Hs.lim (Hs.wm z b f) = Hs.lim z) ∧ (∀ (z : Hs) b f, Hs.qd (Hs.wm z b f) = Hs.qd z) ∧ (∀ (z : Hs) b f, Hs.lh (Hs.wm z b f) = Hs.lh z) ∧
  (∀ (z : Hs) b f, Hs.fh (Hs.wm z b f) = Hs.fh z) ∧ (∀ (z : Hs) b f, Hs.en (Hs.wm z b f) = Hs.en z) ∧ (∀ (z : Hs) b f, Hs.md (Hs.wm z b f) = Hs.md z) ∧
  (∀ (z : Hs) b f, Hs.co (Hs.wm z b f) = Hs.co z) ∧ (∀ (z : Hs) b f, Hs.gb (Hs.wm z b f) = Hs.gb z) ∧ (∀ (z : Hs) b f, Hs.al (Hs.wm z b f) = Hs.al z) ∧
  (∀ (z : Hs) b f, Hs.nbt (Hs.wm z b f) = Hs.nbt z) ∧ (∀ (z : Hs) b f, Hs.nrf (Hs.wm z b f) = Hs.nrf z) ∧ (∀ (z : Hs) b f, Hs.nst (Hs.wm z b f) = Hs.nst z) ∧
  (∀ (z : Hs) b f, Hs.ast (Hs.wm z b f) = Hs.ast z) ∧ (∀ (z : Hs) b f, Hs.nrc (Hs.wm z b f) = Hs.nrc z) ∧ (∀ (z : Hs) b f, Hs.arc (Hs.wm z b f) = Hs.arc z) ∧
  (∀ (z : Hs) b f, Hs.nqu (Hs.wm z b f) = Hs.nqu z) ∧ (∀ (z : Hs) b f, Hs.aqu (Hs.wm z b f) = Hs.aqu z) ∧
  (∀ (z : Hs) b f b' f', Hs.wm (Hs.wm z b f) b' f' = Hs.wm z b' f') :=
  ⟨fun _ _ _ => rfl, fun _ _ _ => rfl, fun _ _ _ => rfl, fun _ _ _ => rfl, fun _ _ _ => rfl, fun _ _ _ => rfl, fun _ _ _ => rfl, fun _ _ _ => rfl, fun _ _ _ => rfl, fun _ _ _ => rfl, fun _ _ _ => rfl, fun _ _ _ => rfl, fun _ _ _ => rfl, fun _ _ _ => rfl, fun _ _ _ => rfl, fun _ _ _ => rfl, fun _ _ _ => rfl, fun _ _ _ => rfl, fun _ _ _ => rfl, fun _ _ _ _ _ => rfl⟩
/-- bounds of the arrays -/
def hb (z : Hs) : Prop := z.nrf = z.nbt ∧ z.nbt ≤ 131089 ∧ z.nrc = z.nst ∧ z.nqu = z.nst ∧ z.nst ≤ 131073 ∧ ∀ a, z.arf a = 0 ∨ z.arf a = 1
theorem hp_bitsAt_e {z : Hs} {a : Nat} (b : hb z) (h : a < z.nbt) : hp_bitsAt z (Int32.ofNat a) = some (z.abt a) := by
  obtain ⟨b1, b2, b3, b4, b5, b6⟩ := b
  unfold hp_bitsAt
  rw [q_inb h (by omega), q_nat (by omega), gdT]
theorem hp_isReference_e {z : Hs} {a : Nat} (b : hb z) (h : a < z.nbt) : hp_isReference z (Int32.ofNat a) = some (z.arf a) := by
  obtain ⟨b1, b2, b3, b4, b5, b6⟩ := b
  unfold hp_isReference
  rw [q_inb (by omega) (by omega), q_nat (by omega), zbof (b6 _), gdT, gdT]
theorem hp_handleAt_0 {z : Hs} {a : Nat} (b : hb z) (h : a < z.nbt) (f : z.arf a = 0) : hp_handleAt z (Int32.ofNat a) = some 0 := by
  obtain ⟨b1, b2, b3, b4, b5, b6⟩ := b
  unfold hp_handleAt
  rw [q_inb (by omega) (by omega), q_nat (by omega), f, gdT, if_pos rfl]
theorem ne10 : ¬ (1 : Int32) = 0 := by decide
theorem hp_handleAt_1 {z : Hs} {a h p : Nat} (b : hb z) (ha : a < z.nbt) (f : z.arf a = 1) (w : z.abt a = Int64.ofNat (h * 8192 + p)) (hh : h < 262144) (hp : p < 8192) : hp_handleAt z (Int32.ofNat a) = some (Int32.ofNat h) := by
  obtain ⟨b1, b2, b3, b4, b5, b6⟩ := b
  unfold hp_handleAt
  rw [q_inb (by omega) (by omega), q_inb (by omega) (by omega), q_nat (by omega), f, w, if_neg ne10, l13 (by omega), q_32, show (h * 8192 + p) / 8192 = h from by omega]
  rfl
theorem hp_placeAt_0 {z : Hs} {a : Nat} (b : hb z) (h : a < z.nbt) (f : z.arf a = 0) : hp_placeAt z (Int32.ofNat a) = some 0 := by
  obtain ⟨b1, b2, b3, b4, b5, b6⟩ := b
  unfold hp_placeAt
  rw [q_inb (by omega) (by omega), q_nat (by omega), f, gdT, if_pos rfl]
theorem hp_placeAt_1 {z : Hs} {a h p : Nat} (b : hb z) (ha : a < z.nbt) (f : z.arf a = 1) (w : z.abt a = Int64.ofNat (h * 8192 + p)) (hp : p < 8192) : hp_placeAt z (Int32.ofNat a) = some (Int32.ofNat p) := by
  obtain ⟨b1, b2, b3, b4, b5, b6⟩ := b
  unfold hp_placeAt
  rw [q_inb (by omega) (by omega), q_inb (by omega) (by omega), q_nat (by omega), f, w, if_neg ne10, m8191, q_32, show (h * 8192 + p) % 8192 = p from by omega]
  rfl
theorem hp_setNumber_e {z : Hs} {a : Nat} {v : Int64} (b : hb z) (h : a < z.nbt) : hp_setNumber z (Int32.ofNat a) v = some (Hs.wm z (vp_updL z.abt a v) (upd z.arf a 0), ()) := by
  obtain ⟨b1, b2, b3, b4, b5, b6⟩ := b
  unfold hp_setNumber
  rw [q_inb (by omega) (by omega), q_inb (by omega) (by omega), q_nat (by omega), nar0]
  rfl
theorem hp_setReference_e {z : Hs} {a h p : Nat} (b : hb z) (ha : a < z.nbt) (hh : h < 262144) (hp : p < 8192) : hp_setReference z (Int32.ofNat a) (Int32.ofNat h) (Int32.ofNat p) = some (Hs.wm z (vp_updL z.abt a (Int64.ofNat (h * 8192 + p))) (upd z.arf a 1), ()) := by
  obtain ⟨b1, b2, b3, b4, b5, b6⟩ := b
  unfold hp_setReference
  rw [q_inb (by omega) (by omega), q_inb (by omega) (by omega), q_nat (by omega), nar1, q_64 (by omega), q_64 (by omega), s13, l_or, n_or (k := 13) hp]
  rfl
theorem hp_setWord_e {z : Hs} {a c : Nat} (b : hb z) (ha : a < z.nbt) (hc : c < z.nbt) : hp_setWord z (Int32.ofNat a) (Int32.ofNat c) = some (Hs.wm z (vp_updL z.abt a (z.abt c)) (upd z.arf a (z.arf c)), ()) := by
  obtain ⟨b1, b2, b3, b4, b5, b6⟩ := b
  unfold hp_setWord
  rw [q_inb (by omega) (by omega), q_inb (by omega) (by omega), q_inb (by omega) (by omega), q_inb (by omega) (by omega), q_nat (by omega), q_nat (by omega), narf (b6 _)]
  rfl
theorem lg_cmp0 {x y : Int64} : (lg_cmp x y = 0) = (x = y) := by
  unfold lg_cmp
  apply propext
  constructor
  · intro h
    split at h
    · exact absurd h (by decide)
    · split at h
      · assumption
      · exact absurd h (by decide)
  · intro h
    subst h
    rw [if_neg (Int64.lt_irrefl), if_pos rfl]
theorem hp_sameWords_e {z : Hs} {a c : Nat} (b : hb z) (ha : a < z.nbt) (hc : c < z.nbt) : hp_sameWords z (Int32.ofNat a) (Int32.ofNat c) = some (if z.arf a = z.arf c ∧ z.abt a = z.abt c then 1 else 0) := by
  obtain ⟨b1, b2, b3, b4, b5, b6⟩ := b
  unfold hp_sameWords hp_sameWords_j35
  rw [q_inb (by omega) (by omega), q_inb (by omega) (by omega), q_inb (by omega) (by omega), q_inb (by omega) (by omega), q_nat (by omega), q_nat (by omega)]
  simp only [lg_cmp0]
  by_cases h1 : z.arf a = z.arf c <;> by_cases h2 : z.abt a = z.abt c <;> simp [h1, h2, gd]
theorem cpy_stepG {α : Type} {to fr i : Nat} {f : Nat → α} (h : to ≤ fr) : (fun j => if j = to + i then va_cpy f f fr to i (fr + i) else va_cpy f f fr to i j) = va_cpy f f fr to (i + 1) := by
  funext a
  unfold va_cpy
  by_cases h1 : a = to + i
  · subst h1
    rw [if_pos rfl, if_neg (by omega), if_pos (by omega), show to + i - to = i from by omega]
  · rw [if_neg h1]
    by_cases h2 : to ≤ a ∧ a < to + i
    · rw [if_pos h2, if_pos (by omega)]
    · rw [if_neg h2, if_neg (by omega)]
theorem cpy_step {to fr i : Nat} {f : Nat → Int32} (h : to ≤ fr) : upd (va_cpy f f fr to i) (to + i) (va_cpy f f fr to i (fr + i)) = va_cpy f f fr to (i + 1) := by
  funext a
  unfold upd va_cpy
  by_cases h1 : a = to + i
  · subst h1
    rw [if_pos rfl, if_neg (by omega), if_pos (by omega), show to + i - to = i from by omega]
  · rw [if_neg h1]
    by_cases h2 : to ≤ a ∧ a < to + i
    · rw [if_pos h2, if_pos (by omega)]
    · rw [if_neg h2, if_neg (by omega)]
theorem cpyf {f : Nat → Int32} (h : ∀ a, f a = 0 ∨ f a = 1) (fr to n a : Nat) : va_cpy f f fr to n a = 0 ∨ va_cpy f f fr to n a = 1 := by
  unfold va_cpy
  split <;> exact h _
theorem cw_l22 {z : Hs} {to fr n : Nat} (f : Nat → Int32) (hf : ∀ a, f a = 0 ∨ f a = 1) (hn : z.nrf ≤ 131089) (h : to ≤ fr) (hn2 : fr + n ≤ z.nrf) : ∀ k i fu, i + k = n → k < fu →
    hp_copyWords_l22 fu (Int32.ofNat to) (Int32.ofNat fr) (Int32.ofNat n) (Int32.ofNat i) (Hs.wrf z (va_cpy f f fr to i)) = some (Hs.wrf z (va_cpy f f fr to n), ()) := by
  intro k
  induction k with
  | zero =>
    intro i fu hi hfu
    obtain ⟨m, rfl⟩ : ∃ m, fu = m + 1 := ⟨fu - 1, by omega⟩
    have : i = n := by omega
    subst this
    rw [hp_copyWords_l22, if_pos ((q_le (by omega) (by omega)).mpr (Nat.le_refl _))]
  | succ k ih =>
    intro i fu hi hfu
    obtain ⟨m, rfl⟩ : ∃ m, fu = m + 1 := ⟨fu - 1, by omega⟩
    rw [hp_copyWords_l22, if_neg (fun c => absurd ((q_le (by omega) (by omega)).mp c) (by omega)), q_add, q_add]
    simp only [H_wrf]
    rw [q_inb (show fr + i < z.nrf by omega) (by omega), q_inb (show to + i < z.nrf by omega) (by omega), q_nat (by omega), q_nat (by omega)]
    have e : Int32.ofNat i + 1 = Int32.ofNat (i + 1) := q_add i 1
    rw [e]
    have := ih (i + 1) m (by omega) (by omega)
    rw [← cpy_step h] at this
    rw [← this, gdT, gdT]
    show hp_copyWords_l22 _ _ _ _ _ (Hs.wrf z (upd (va_cpy f f fr to i) (to + i) (vp_nar .boolean (va_cpy f f fr to i (fr + i))))) = _
    rw [narf (cpyf hf _ _ _ _)]
/-- the copy from above: the top n - i words are done -/
def cpyd (f : Nat → Int32) (fr to n i : Nat) : Nat → Int32 := fun a => if to + i ≤ a ∧ a < to + n then f (fr + (a - to)) else f a
theorem cpyd_step {to fr n i : Nat} {f : Nat → Int32} (h : fr < to) (hi : i < n) : upd (cpyd f fr to n (i + 1)) (to + i) (cpyd f fr to n (i + 1) (fr + i)) = cpyd f fr to n i := by
  funext a
  unfold upd cpyd
  by_cases h1 : a = to + i
  · subst h1
    rw [if_pos rfl, if_neg (by omega), if_pos (by omega), show to + i - to = i from by omega]
  · rw [if_neg h1]
    by_cases h2 : to + (i + 1) ≤ a ∧ a < to + n
    · rw [if_pos h2, if_pos (by omega)]
    · rw [if_neg h2, if_neg (by omega)]
theorem cpydf {f : Nat → Int32} (h : ∀ a, f a = 0 ∨ f a = 1) (fr to n i a : Nat) : cpyd f fr to n i a = 0 ∨ cpyd f fr to n i a = 1 := by
  unfold cpyd
  split <;> exact h _
theorem cw_l60 {z : Hs} {to fr n : Nat} (f : Nat → Int32) (hf : ∀ a, f a = 0 ∨ f a = 1) (hn : z.nrf ≤ 131089) (h : fr < to) (hn2 : to + n ≤ z.nrf) : ∀ i fu, i ≤ n → i < fu →
    hp_copyWords_l60 fu (Int32.ofNat to) (Int32.ofNat fr) (Int32.ofNat i - 1) (Hs.wrf z (cpyd f fr to n i)) = some (Hs.wrf z (cpyd f fr to n 0), ()) := by
  intro i
  induction i with
  | zero =>
    intro fu hi hfu
    obtain ⟨m, rfl⟩ : ∃ m, fu = m + 1 := ⟨fu - 1, by omega⟩
    rw [hp_copyWords_l60, if_pos (by decide)]
  | succ i ih =>
    intro fu hi hfu
    obtain ⟨m, rfl⟩ : ∃ m, fu = m + 1 := ⟨fu - 1, by omega⟩
    have e : Int32.ofNat (i + 1) - 1 = Int32.ofNat i := q_sub (a := i + 1) (b := 1) (by omega)
    rw [e, hp_copyWords_l60, if_neg (q_nlt0 (by omega)), q_add, q_add]
    simp only [H_wrf]
    rw [q_inb (show fr + i < z.nrf by omega) (by omega), q_inb (show to + i < z.nrf by omega) (by omega), q_nat (by omega), q_nat (by omega)]
    have := ih m (by omega) (by omega)
    rw [← cpyd_step h (by omega)] at this
    rw [← this, gdT, gdT]
    show hp_copyWords_l60 _ _ _ _ (Hs.wrf z (upd (cpyd f fr to n (i + 1)) (to + i) (vp_nar .boolean (cpyd f fr to n (i + 1) (fr + i))))) = _
    rw [narf (cpydf hf _ _ _ _ _), show Int32.ofNat i + -1 = Int32.ofNat i - 1 from (Int32.sub_eq_add_neg _ _).symm]
theorem hp_copyWords_e {z : Hs} {to fr n : Nat} (b : hb z) (h1 : to + n ≤ z.nbt) (h2 : fr + n ≤ z.nbt) : hp_copyWords z (Int32.ofNat to) (Int32.ofNat fr) (Int32.ofNat n) = some (Hs.wm z (va_cpy z.abt z.abt fr to n) (va_cpy z.arf z.arf fr to n), ()) := by
  obtain ⟨b1, b2, b3, b4, b5, b6⟩ := b
  unfold hp_copyWords
  have c : cpb (Int32.ofNat fr) (Int32.ofNat to) (Int32.ofNat n) z.nbt z.nbt = true := by
    unfold cpb
    rw [decide_eq_true_eq, q_nat (by omega), q_nat (by omega), q_nat (by omega)]
    refine ⟨fun c => absurd ((q_lt (b := 0) (by omega) (by omega)).mp c) (by omega), fun c => absurd ((q_lt (b := 0) (by omega) (by omega)).mp c) (by omega), fun c => absurd ((q_lt (b := 0) (by omega) (by omega)).mp c) (by omega), by omega, by omega⟩
  rw [c, gdT, q_nat (by omega), q_nat (by omega), q_nat (by omega)]
  by_cases h : fr < to
  · rw [if_pos ((q_lt (by omega) (by omega)).mpr h)]
    have := cw_l60 (z := Hs.wbt z (va_cpy z.abt z.abt fr to n)) z.arf b6 (show z.nrf ≤ 131089 by omega) h (show to + n ≤ z.nrf by omega) n FU (Nat.le_refl _) (by unfold FU; omega)
    rw [show Hs.wrf (Hs.wbt z (va_cpy z.abt z.abt fr to n)) (cpyd z.arf fr to n n) = Hs.wbt z (va_cpy z.abt z.abt fr to n) from by
      have : cpyd z.arf fr to n n = z.arf := by
        funext a; unfold cpyd; rw [if_neg (by omega)]
      rw [this]; rfl] at this
    refine this.trans ?_
    rfl
  · rw [if_neg (fun c => absurd ((q_lt (by omega) (by omega)).mp c) h)]
    have := cw_l22 (z := Hs.wbt z (va_cpy z.abt z.abt fr to n)) (n := n) z.arf b6 (show z.nrf ≤ 131089 by omega) (show to ≤ fr by omega) (show fr + n ≤ z.nrf by omega) n 0 FU (by omega) (by unfold FU; omega)
    rw [show Hs.wrf (Hs.wbt z (va_cpy z.abt z.abt fr to n)) (va_cpy z.arf z.arf fr to 0) = Hs.wbt z (va_cpy z.abt z.abt fr to n) from by
      have : va_cpy z.arf z.arf fr to 0 = z.arf := by
        funext a; unfold va_cpy; rw [if_neg (by omega)]
      rw [this]; rfl] at this
    exact this
def filN {α : Type} (f : Nat → α) (a b : Nat) (v : α) : Nat → α := fun j => if a ≤ j ∧ j < b then v else f j
theorem fl_step {α : Type} {f : Nat → α} {a i : Nat} {v : α} (h : a ≤ i) : (fun j => if j = i then v else filN f a i v j) = filN f a (i + 1) v := by
  funext j
  unfold filN
  by_cases h1 : j = i
  · rw [if_pos h1, if_pos (by omega)]
  · rw [if_neg h1]
    by_cases h2 : a ≤ j ∧ j < i
    · rw [if_pos h2, if_pos (by omega)]
    · rw [if_neg h2, if_neg (by omega)]
theorem fl_l10 {z : Hs} {a c : Nat} {v : Int64} (f : Nat → Int64) (hn : z.nbt ≤ 131089) (h2 : c ≤ z.nbt) : ∀ k i fu, i + k = c → a ≤ i → k < fu →
    ja_fill_l10 fu (Int32.ofNat c) v (Int32.ofNat i) (Hs.wbt z (filN f a i v)) = some (Hs.wbt z (filN f a c v), ()) := by
  intro k
  induction k with
  | zero =>
    intro i fu hi _ hfu
    obtain ⟨m, rfl⟩ : ∃ m, fu = m + 1 := ⟨fu - 1, by omega⟩
    have : i = c := by omega
    subst this
    rw [ja_fill_l10, if_pos ((q_le (by omega) (by omega)).mpr (Nat.le_refl _))]
  | succ k ih =>
    intro i fu hi ha hfu
    obtain ⟨m, rfl⟩ : ∃ m, fu = m + 1 := ⟨fu - 1, by omega⟩
    rw [ja_fill_l10, if_neg (fun c => absurd ((q_le (by omega) (by omega)).mp c) (by omega))]
    simp only [H_wbt]
    rw [q_inb (show i < z.nbt by omega) (by omega), q_nat (by omega), gdT, show Int32.ofNat i + 1 = Int32.ofNat (i + 1) from q_add i 1]
    have := ih (i + 1) m (by omega) (by omega) (by omega)
    rw [← fl_step ha] at this
    exact this
theorem cl_l14 {z : Hs} {a n : Nat} (f : Nat → Int32) (hn : z.nrf ≤ 131089) (h2 : a + n ≤ z.nrf) : ∀ k i fu, i + k = a + n → a ≤ i → k < fu →
    hp_clearWords_l14 fu (Int32.ofNat a) (Int32.ofNat n) (Int32.ofNat i) (Hs.wrf z (filN f a i 0)) = some (Hs.wrf z (filN f a (a + n) 0), ()) := by
  intro k
  induction k with
  | zero =>
    intro i fu hi _ hfu
    obtain ⟨m, rfl⟩ : ∃ m, fu = m + 1 := ⟨fu - 1, by omega⟩
    have : i = a + n := by omega
    subst this
    rw [hp_clearWords_l14, q_add, if_pos ((q_le (by omega) (by omega)).mpr (Nat.le_refl _))]
  | succ k ih =>
    intro i fu hi ha hfu
    obtain ⟨m, rfl⟩ : ∃ m, fu = m + 1 := ⟨fu - 1, by omega⟩
    rw [hp_clearWords_l14, q_add, if_neg (fun c => absurd ((q_le (by omega) (by omega)).mp c) (by omega))]
    simp only [H_wrf]
    rw [q_inb (show i < z.nrf by omega) (by omega), q_nat (by omega), nar0, gdT, show Int32.ofNat i + 1 = Int32.ofNat (i + 1) from q_add i 1]
    have := ih (i + 1) m (by omega) (by omega) (by omega)
    rw [← fl_step ha] at this
    exact this
theorem hp_clearWords_e {z : Hs} {a n : Nat} (b : hb z) (h : a + n ≤ z.nbt) : hp_clearWords z (Int32.ofNat a) (Int32.ofNat n) = some (Hs.wm z (filN z.abt a (a + n) 0) (filN z.arf a (a + n) 0), ()) := by
  obtain ⟨b1, b2, b3, b4, b5, b6⟩ := b
  unfold hp_clearWords ja_fill ja_rangeCheck
  rw [q_add, if_pos ((q_le (by omega) (by omega)).mpr (by omega)), if_pos (q_le0 (by omega)), if_pos ((q_le (by omega) (by omega)).mpr (by omega))]
  have e1 := fl_l10 (z := z) (a := a) (c := a + n) (v := 0) z.abt (by omega) (by omega) n a FU (by omega) (by omega) (by unfold FU; omega)
  rw [show Hs.wbt z (filN z.abt a a 0) = z from by
      have : filN z.abt a a 0 = z.abt := by
        funext j; unfold filN; rw [if_neg (by omega)]
      rw [this]; rfl] at e1
  show bw (b0 (some ()) fun _ => ja_fill_l10 FU (Int32.ofNat (a + n)) 0 (Int32.ofNat a) z) _ = _
  rw [PB.2.1, e1]
  have e2 := cl_l14 (z := Hs.wbt z (filN z.abt a (a + n) 0)) (a := a) (n := n) z.arf (show z.nrf ≤ 131089 by omega) (show a + n ≤ z.nrf by omega) n a FU (by omega) (by omega) (by unfold FU; omega)
  rw [show Hs.wrf (Hs.wbt z (filN z.abt a (a + n) 0)) (filN z.arf a a 0) = Hs.wbt z (filN z.abt a (a + n) 0) from by
      have : filN z.arf a a 0 = z.arf := by
        funext j; unfold filN; rw [if_neg (by omega)]
      rw [this]; rfl] at e2
  exact e2
