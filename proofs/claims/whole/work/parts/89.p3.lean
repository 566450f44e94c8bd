/-! What a map's own words say; tell on both sides. -/
theorem qsr_amt : ∀ k, k < 32 → ((Int32.ofNat k).toUInt32 &&& Int32.toUInt32 31) = UInt32.ofNat k := by decide
theorem q_ushr {a k : Nat} (ha : a < 4294967296) (hk : k < 32) : ((Int32.ofNat a).toUInt32 >>> ((Int32.ofNat k).toUInt32 &&& Int32.toUInt32 31)).toInt32 = Int32.ofNat (a / 2 ^ k) := by
  rw [qsr_amt k hk, Int32.toUInt32_ofNat']
  have : UInt32.ofNat a >>> UInt32.ofNat k = UInt32.ofNat (a / 2 ^ k) := by
    apply UInt32.toNat_inj.mp
    rw [UInt32.toNat_shiftRight, UInt32.toNat_ofNat', UInt32.toNat_ofNat', UInt32.toNat_ofNat', Nat.mod_eq_of_lt ha, Nat.mod_eq_of_lt (by omega : k < 2 ^ 32), Nat.mod_eq_of_lt hk, Nat.shiftRight_eq_div_pow, Nat.mod_eq_of_lt]
    exact Nat.lt_of_le_of_lt (Nat.div_le_self _ _) ha
  rw [this]
  rfl
theorem m1i (a : Nat) : Int32.ofNat a &&& 1 = Int32.ofNat (a % 2) := q_mask a 1
theorem nc_le {a : Ab} {n : Nat} (m : okM a n) : a.nc n ≤ 32768 := by
  have h1 := m.tb
  have h2 := m.nk
  have : a.nc n * 4 ≤ a.nc n * (3 + a.nk n + a.nv n) := Nat.mul_le_mul_left _ (by omega)
  omega
theorem nt_lt {a : Ab} {n : Nat} (m : okM a n) : a.nt n < 16 := by
  have h1 := m.nt
  have h2 := m.nk
  have : 2 ^ a.nk n ≤ 2 ^ 4 := Nat.pow_le_pow_right (by omega) (by omega)
  have e : (2 : Nat) ^ 4 = 16 := by decide
  omega
theorem shp_lt {a : Ab} {n : Nat} (m : okM a n) : shp a n < 33556480 := by
  have h1 := nc_le m
  have h2 := nt_lt m
  have h3 := m.nk
  have h4 := m.nv
  unfold shp
  omega
/-- a map's fields -/
def MF (z : Hs) (g : Gh) (o : Go) (a : Ab) (n : Nat) : Prop :=
  (hv g (o.ho n)) ∧
  (∀ j, j < 5 → g.st (o.ho n) + 1 + j < z.nbt) ∧
  (mp_field z (Int32.ofNat (o.ho n)) 1 = some (Int32.ofNat (shp a n))) ∧
  (mp_field z (Int32.ofNat (o.ho n)) 2 = some (Int32.ofNat (ens (a.sl n)).length)) ∧
  (mp_field z (Int32.ofNat (o.ho n)) 3 = some (Int32.ofNat (a.no n))) ∧
  (mp_field z (Int32.ofNat (o.ho n)) 4 = some (Int32.ofNat (a.sl n).length))
theorem MF.v {z : Hs} {g : Gh} {o : Go} {a : Ab} {n : Nat} (hyp : MF z g o a n) : hv g (o.ho n) := hyp.1
theorem MF.b {z : Hs} {g : Gh} {o : Go} {a : Ab} {n : Nat} (hyp : MF z g o a n) : ∀ j, j < 5 → g.st (o.ho n) + 1 + j < z.nbt := hyp.2.1
theorem MF.f1 {z : Hs} {g : Gh} {o : Go} {a : Ab} {n : Nat} (hyp : MF z g o a n) : mp_field z (Int32.ofNat (o.ho n)) 1 = some (Int32.ofNat (shp a n)) := hyp.2.2.1
theorem MF.f2 {z : Hs} {g : Gh} {o : Go} {a : Ab} {n : Nat} (hyp : MF z g o a n) : mp_field z (Int32.ofNat (o.ho n)) 2 = some (Int32.ofNat (ens (a.sl n)).length) := hyp.2.2.2.1
theorem MF.f3 {z : Hs} {g : Gh} {o : Go} {a : Ab} {n : Nat} (hyp : MF z g o a n) : mp_field z (Int32.ofNat (o.ho n)) 3 = some (Int32.ofNat (a.no n)) := hyp.2.2.2.2.1
theorem MF.f4 {z : Hs} {g : Gh} {o : Go} {a : Ab} {n : Nat} (hyp : MF z g o a n) : mp_field z (Int32.ofNat (o.ho n)) 4 = some (Int32.ofNat (a.sl n).length) := hyp.2.2.2.2.2

theorem RC.mf {z : Hs} {g : Gh} {o : Go} {a : Ab} {n : Nat} (c : RC z g o a) (on : obj a n) (k4 : a.kd n = 4) : MF z g o a n := by
  have ob := c.ob n on
  have M := (ob.mp k4).1
  have sz : g.sz (o.ho n) = 6 := by unfold Gh.sz; rw [ob.kd, k4, M.ln]; rfl
  have hb : ∀ j, j < 5 → g.st (o.ho n) + 1 + j < z.nbt := fun j hj => (c.i.wd_ne (a := g.st (o.ho n) + 1 + j) (Or.inr ⟨o.ho n, ob.m, by omega, by omega⟩)).1
  have v : hv g (o.ho n) := Or.inr ob.m
  exact ⟨v, hb, field_e (j := 1) c.i v (hb 1 (by omega)) M.w1.2, field_e (j := 2) c.i v (hb 2 (by omega)) M.w2.2, field_e (j := 3) c.i v (hb 3 (by omega)) M.w3.2, field_e (j := 4) c.i v (hb 4 (by omega)) M.w4.2⟩
theorem entryWords_e {z : Hs} {g : Gh} {o : Go} {a : Ab} {n : Nat} (F : MF z g o a n) (m : okM a n) : mp_entryWords z (Int32.ofNat (o.ho n)) = some (Int32.ofNat (a.nk n + a.nv n)) := by
  have hs := shp_lt m
  have h3 := m.nk
  have h4 := m.nv
  unfold mp_entryWords
  rw [F.f1, PB.2.1, m7i, show ((Int32.ofNat (shp a n)).toUInt32 >>> ((3 : Int32).toUInt32 &&& Int32.toUInt32 31)).toInt32 = Int32.ofNat (shp a n / 8) from q_ushr (k := 3) (by omega) (by omega), m7i, q_add]
  congr 2
  unfold shp
  omega
theorem keyWords_e {z : Hs} {g : Gh} {o : Go} {a : Ab} {n : Nat} (F : MF z g o a n) (m : okM a n) : mp_keyWords z (Int32.ofNat (o.ho n)) = some (Int32.ofNat (a.nk n)) := by
  have h3 := m.nk
  have h4 := m.nv
  unfold mp_keyWords
  rw [F.f1, PB.2.1, m7i]
  congr 2
  unfold shp
  omega
theorem valueWords_e {z : Hs} {g : Gh} {o : Go} {a : Ab} {n : Nat} (F : MF z g o a n) (m : okM a n) : mp_valueWords z (Int32.ofNat (o.ho n)) = some (Int32.ofNat (a.nv n)) := by
  have hs := shp_lt m
  have h3 := m.nk
  have h4 := m.nv
  unfold mp_valueWords
  rw [F.f1, PB.2.1, show ((Int32.ofNat (shp a n)).toUInt32 >>> ((3 : Int32).toUInt32 &&& Int32.toUInt32 31)).toInt32 = Int32.ofNat (shp a n / 8) from q_ushr (k := 3) (by omega) (by omega), m7i]
  congr 2
  unfold shp
  omega
theorem capacity_e {z : Hs} {g : Gh} {o : Go} {a : Ab} {n : Nat} (F : MF z g o a n) (m : okM a n) : mp_capacity z (Int32.ofNat (o.ho n)) = some (Int32.ofNat (a.nc n)) := by
  have hs := shp_lt m
  have h2 := nt_lt m
  have h3 := m.nk
  have h4 := m.nv
  unfold mp_capacity
  rw [F.f1, PB.2.1, show ((Int32.ofNat (shp a n)).toUInt32 >>> ((10 : Int32).toUInt32 &&& Int32.toUInt32 31)).toInt32 = Int32.ofNat (shp a n / 1024) from q_ushr (k := 10) (by omega) (by omega)]
  congr 2
  unfold shp
  omega
theorem isTextual_e {z : Hs} {g : Gh} {o : Go} {a : Ab} {n i : Nat} (F : MF z g o a n) (m : okM a n) (hi : i < 4) : mp_isTextual z (Int32.ofNat (o.ho n)) (Int32.ofNat i) = some (if (a.nt n).testBit i = true then 1 else 0) := by
  have hs := shp_lt m
  have h2 := nt_lt m
  have h3 := m.nk
  have h4 := m.nv
  have e6 : (6 : Int32) + Int32.ofNat i = Int32.ofNat (6 + i) := q_add 6 i
  have ht : shp a n / 2 ^ (6 + i) % 2 = if (a.nt n).testBit i = true then 1 else 0 := by
    have e : shp a n / 2 ^ (6 + i) % 2 = a.nt n / 2 ^ i % 2 := by
      unfold shp
      have hi4 : i = 0 ∨ i = 1 ∨ i = 2 ∨ i = 3 := by omega
      rcases hi4 with rfl | rfl | rfl | rfl <;> simp <;> omega
    rw [e, Nat.testBit_eq_decide_div_mod_eq]
    by_cases h : a.nt n / 2 ^ i % 2 = 1
    · rw [if_pos (by rw [decide_eq_true_eq]; exact h), h]
    · rw [if_neg (by rw [decide_eq_true_eq]; exact h)]
      omega
  unfold mp_isTextual
  rw [F.f1, PB.2.1, e6, q_ushr (by omega) (by omega), m1i, ht]
  by_cases h : (a.nt n).testBit i = true
  · rw [if_pos h, if_neg (show ¬ (Int32.ofNat 1 = 0) from ne10), if_pos h]
  · rw [if_neg h, if_pos (show Int32.ofNat 0 = 0 from rfl), if_neg h]
theorem slotWords_e {z : Hs} {g : Gh} {o : Go} {a : Ab} {n : Nat} (F : MF z g o a n) (m : okM a n) : mp_slotWords z (Int32.ofNat (o.ho n)) = some (Int32.ofNat (3 + a.nk n + a.nv n)) := by
  unfold mp_slotWords
  rw [entryWords_e F m, PB.2.1, show (3 : Int32) + Int32.ofNat (a.nk n + a.nv n) = Int32.ofNat (3 + (a.nk n + a.nv n)) from q_add 3 _, Nat.add_assoc]
theorem slotsStart_e {z : Hs} {g : Gh} {o : Go} {a : Ab} {n : Nat} (c : RC z g o a) (on : obj a n) (k4 : a.kd n = 4) : mp_slotsStart z (Int32.ofNat (o.ho n)) = some (Int32.ofNat (g.st (o.ta n) + 1)) := by
  have ob := c.ob n on
  obtain ⟨M, T⟩ := ob.mp k4
  have F := c.mf on k4
  have tv : hv g (o.ta n) := Or.inr T.m
  have tlt := (c.i.hok tv).2.2.2.2
  have e0 : Int32.ofNat (g.st (o.ho n) + 1) + 0 = Int32.ofNat (g.st (o.ho n) + 1) := q_add _ 0
  have hb := F.b 0 (by omega)
  have hw0 : z.abt (g.st (o.ho n) + 1) = Int64.ofNat (o.ta n * 8192 + 0) := by
    rw [Nat.add_zero (o.ta n * 8192)]
    exact M.w0.2
  unfold mp_slotsStart
  rw [c.i.first F.v, PB.2.1, e0, hp_handleAt_1 (h := o.ta n) (p := 0) c.i.hb hb M.w0.1 hw0 (by omega) (by omega), PB.2.1, c.i.first tv, PB.2.1]
theorem slotsEnd_e {z : Hs} {g : Gh} {o : Go} {a : Ab} {n w : Nat} (c : RC z g o a) (on : obj a n) (k4 : a.kd n = 4) : mp_slotsEnd z (Int32.ofNat (o.ho n)) (Int32.ofNat w) = some (Int32.ofNat (g.st (o.ta n) + 1 + (a.sl n).length * w)) := by
  have F := c.mf on k4
  unfold mp_slotsEnd
  rw [slotsStart_e c on k4, PB.2.1, F.f4, PB.2.1, q_mul, q_add]
theorem md_entriesOf_e {m : Ms} {q : Gm} {a : Ab} {n : Nat} (R : RM m q a) (A : AI a) (on : obj a n) (k4 : a.kd n = 4) : md_entriesOf m (Int32.ofNat n) = some (Int32.ofNat (ens (a.sl n)).length) := by
  have zel := R.z.el
  have hle := R.e.le
  have md := A.md
  have tn := A.tn
  have hn := on.2.1
  have loop : ∀ k e fu cnt, e + k = a.el.length → k < fu → md_entriesOf_l4 fu (Int32.ofNat n) (Int32.ofNat cnt) (Int32.ofNat e) m = some (Int32.ofNat (cnt + ((a.el.drop e).filter (fun t => t.1 == n)).length)) := by
    intro k
    induction k with
    | zero =>
      intro e fu cnt he hfu
      obtain ⟨f, rfl⟩ : ∃ f, fu = f + 1 := ⟨fu - 1, by omega⟩
      rw [md_entriesOf_l4, R.e.ent, if_pos ((q_le (by omega) (by omega)).mpr (by omega)), List.drop_eq_nil_of_le (by omega), List.filter_nil, List.length_nil, Nat.add_zero]
    | succ k ih =>
      intro e fu cnt he hfu
      obtain ⟨f, rfl⟩ : ∃ f, fu = f + 1 := ⟨fu - 1, by omega⟩
      have hel : e < a.el.length := by omega
      have e1 : Int32.ofNat e + 1 = Int32.ofNat (e + 1) := q_add e 1
      have c1 : Int32.ofNat cnt + 1 = Int32.ofNat (cnt + 1) := q_add cnt 1
      have c0 : Int32.ofNat cnt + 0 = Int32.ofNat cnt := q_add cnt 0
      have hm := (A.el _ (List.getElem_mem hel)).1.2.1
      rw [md_entriesOf_l4, R.e.ent, if_neg (fun d => absurd ((q_le (by omega) (by omega)).mp d) (by omega)), q_inb (show e < m.nem by omega) (by omega), gdT, q_nat (by omega), R.e.mp e hel, e1, c1, c0, ih (e + 1) f (cnt + 1) (by omega) (by omega), ih (e + 1) f cnt (by omega) (by omega), List.drop_eq_getElem_cons hel]
      by_cases h : (a.el[e]).1 = n
      · rw [if_pos (by rw [h]), List.filter_cons_of_pos (by simp [h]), List.length_cons]
        congr 2
        omega
      · rw [if_neg (q_nek _ (by omega) (by omega) h), List.filter_cons_of_neg (by simp [h])]
  unfold md_entriesOf
  rw [show (0 : Int32) = Int32.ofNat 0 from rfl]
  have := loop a.el.length 0 FU 0 (by omega) (by unfold FU; omega)
  rw [List.drop_zero, Nat.zero_add] at this
  rw [A.cn n on k4, List.length_map]
  exact this
