/-! The first entry from an order on; next on both sides. -/
theorem sl_srt {l : List Slo} (h : (ens l).Pairwise (fun x y => x.1 < y.1)) {i j : Nat} {e e' : Nat × (Nat → Wrd)} (hi : l[i]? = some (some e)) (hj : l[j]? = some (some e')) (hij : i < j) : e.1 < e'.1 := by
  unfold ens at h
  rw [List.pairwise_filterMap, List.pairwise_iff_getElem] at h
  obtain ⟨hi1, hi2⟩ := List.getElem?_eq_some_iff.mp hi
  obtain ⟨hj1, hj2⟩ := List.getElem?_eq_some_iff.mp hj
  exact h i j hi1 hj1 hij e (by rw [hi2]; rfl) e' (by rw [hj2]; rfl)
/-- the j-th slot of map n -/
def sla (g : Gh) (o : Go) (a : Ab) (n j : Nat) : Nat := g.st (o.ta n) + 1 + j * (3 + a.nk n + a.nv n)
theorem sla_in {z : Hs} {g : Gh} {o : Go} {a : Ab} {n j i : Nat} (c : RC z g o a) (on : obj a n) (k4 : a.kd n = 4) (hj : j < a.nc n) (hi : i < 3 + a.nk n + a.nv n) : sla g o a n j + i < z.nbt ∧ sla g o a n j + i < 131089 ∧ g.st (o.ta n) < sla g o a n j + i ∧ sla g o a n j + i < g.st (o.ta n) + g.sz (o.ta n) := by
  have ob := c.ob n on
  have T := (ob.mp k4).2
  have szt : g.sz (o.ta n) = 1 + a.nc n * (3 + a.nk n + a.nv n) := by unfold Gh.sz; rw [T.kd, T.ln]; rfl
  have hjk : j * (3 + a.nk n + a.nv n) + (3 + a.nk n + a.nv n) ≤ a.nc n * (3 + a.nk n + a.nv n) := by
    rw [← Nat.succ_mul]
    exact Nat.mul_le_mul_right _ hj
  unfold sla
  have wn := c.i.wd_ne (a := g.st (o.ta n) + 1 + j * (3 + a.nk n + a.nv n) + i) (Or.inr ⟨o.ta n, T.m, by omega, by omega⟩)
  have b2 := c.i.hb.2.1
  exact ⟨wn.1, by omega, by omega, by omega⟩
def ordS (s : Slo) : Int32 := match s with
  | some e => Int32.ofNat e.1
  | none => -1
theorem orderIn_e {z : Hs} {g : Gh} {o : Go} {a : Ab} {n j : Nat} (c : RC z g o a) (on : obj a n) (k4 : a.kd n = 4) (hj : j < a.nc n) {s : Slo} (hs : (a.sl n)[j]? = some s) : mp_orderIn z (Int32.ofNat (sla g o a n j)) = some (ordS s) := by
  have T := ((c.ob n on).mp k4).2
  have hb := (sla_in (i := 0) c on k4 hj (by omega)).1
  rw [Nat.add_zero] at hb
  have S := T.sl j hj
  rw [hs] at S
  unfold mp_orderIn
  rw [hp_bitsAt_e c.i.hb hb, PB.2.1]
  cases s with
  | none =>
    rw [show z.abt (sla g o a n j) = 0 from S.1]
    rfl
  | some e =>
    rw [show z.abt (sla g o a n j) = Int64.ofNat (e.1 + 1) from S.2.1, q_32]
    have : Int32.ofNat (e.1 + 1) - 1 = Int32.ofNat (e.1 + 1 - 1) := q_sub (b := 1) (by omega)
    rw [this]
    rfl
/-- the first entry whose order is not below x -/
def SfR (a : Ab) (n : Nat) (x : Int32) (j : Nat) (e : Nat × (Nat → Wrd)) : Prop := (a.sl n)[j]? = some (some e) ∧ ¬ (Int32.ofNat e.1 < x) ∧ ∀ i, i < j → ∀ e', (a.sl n)[i]? = some (some e') → Int32.ofNat e'.1 < x
theorem slotFrom_e {z : Hs} {g : Gh} {o : Go} {a : Ab} {n : Nat} {x : Int32} (c : RC z g o a) (A : AI a) (on : obj a n) (k4 : a.kd n = 4) : (∃ j e, j < (a.sl n).length ∧ SfR a n x j e ∧ mp_slotFrom z (Int32.ofNat (o.ho n)) x = some (Int32.ofNat (sla g o a n j))) ∨ ((∀ e, e ∈ ens (a.sl n) → Int32.ofNat e.1 < x) ∧ mp_slotFrom z (Int32.ofNat (o.ho n)) x = some (-1)) := by
  have okm := A.mp on k4
  have F := c.mf on k4
  have tn := A.tn
  have no := okm.no
  have hsl := okm.sl
  have hst : ∀ j, j ≤ (a.sl n).length → sla g o a n j < 2147483648 := by
    intro j hj
    have T := ((c.ob n on).mp k4).2
    have tm := Til_mem c.i.til T.m
    have szt : g.sz (o.ta n) = 1 + a.nc n * (3 + a.nk n + a.nv n) := by unfold Gh.sz; rw [T.kd, T.ln]; rfl
    have hjk : j * (3 + a.nk n + a.nv n) ≤ a.nc n * (3 + a.nk n + a.nv n) := Nat.mul_le_mul_right _ (by omega)
    have b2 := c.i.hb.2.1
    have eb := c.i.eb
    unfold sla
    omega
  have hsucc : ∀ j, Int32.ofNat (sla g o a n j) + Int32.ofNat (3 + a.nk n + a.nv n) = Int32.ofNat (sla g o a n (j + 1)) := by
    intro j
    rw [q_add]
    congr 1
    unfold sla
    rw [Nat.add_mul, Nat.one_mul]
    omega
  have mono : ∀ i j, i < j → sla g o a n i < sla g o a n j := by
    intro i j hij
    have : i * (3 + a.nk n + a.nv n) < j * (3 + a.nk n + a.nv n) := Nat.mul_lt_mul_of_pos_right hij (by omega)
    unfold sla
    omega
  have loop2 : ∀ k j fu, j + k = (a.sl n).length → k < fu → (∀ i, i < j → ∀ e', (a.sl n)[i]? = some (some e') → Int32.ofNat e'.1 < x) →
      (∃ l e, l < (a.sl n).length ∧ SfR a n x l e ∧ mp_slotFrom_l21 fu x (Int32.ofNat (3 + a.nk n + a.nv n)) (Int32.ofNat (sla g o a n (a.sl n).length)) (Int32.ofNat (sla g o a n j)) z = some (Int32.ofNat (sla g o a n l))) ∨ ((∀ e, e ∈ ens (a.sl n) → Int32.ofNat e.1 < x) ∧ mp_slotFrom_l21 fu x (Int32.ofNat (3 + a.nk n + a.nv n)) (Int32.ofNat (sla g o a n (a.sl n).length)) (Int32.ofNat (sla g o a n j)) z = some (-1)) := by
    intro k
    induction k with
    | zero =>
      intro j fu hj hfu hlow
      obtain ⟨f, rfl⟩ : ∃ f, fu = f + 1 := ⟨fu - 1, by omega⟩
      have hje : j = (a.sl n).length := by omega
      subst hje
      refine Or.inr ⟨?_, ?_⟩
      · intro e he
        obtain ⟨l, hl, el⟩ := ens_get he
        exact hlow l hl e el
      · rw [mp_slotFrom_l21, if_pos ((q_le (hst _ (Nat.le_refl _)) (hst _ (Nat.le_refl _))).mpr (Nat.le_refl _))]
    | succ k ih =>
      intro j fu hj hfu hlow
      obtain ⟨f, rfl⟩ : ∃ f, fu = f + 1 := ⟨fu - 1, by omega⟩
      have hjl : j < (a.sl n).length := by omega
      have hm := mono j (a.sl n).length hjl
      have hg : (a.sl n)[j]? = some ((a.sl n)[j]) := List.getElem?_eq_getElem hjl
      obtain ⟨s, hsE⟩ : ∃ s, s = (a.sl n)[j] := ⟨_, rfl⟩
      rw [← hsE] at hg
      have ho := orderIn_e c on k4 (by omega) hg
      rw [mp_slotFrom_l21, if_neg (fun d => absurd ((q_le (hst _ (Nat.le_refl _)) (hst _ (by omega))).mp d) (by omega)), ho, PB.2.1, PB.2.1, hsucc]
      cases s with
      | none =>
        rw [if_pos (show ordS none = -1 from rfl)]
        refine ih (j + 1) f (by omega) (by omega) ?_
        intro i hi e' he'
        by_cases hij : i = j
        · subst hij
          rw [hg] at he'
          cases he'
        · exact hlow i (by omega) e' he'
      | some e =>
        have em := ens_mem hg
        have elt := okm.lt e em
        rw [if_neg (show ¬ (ordS (some e) = -1) from Int32.neg1_ne (by omega))]
        by_cases hlt : Int32.ofNat e.1 < x
        · rw [if_pos (show ordS (some e) < x from hlt)]
          refine ih (j + 1) f (by omega) (by omega) ?_
          intro i hi e' he'
          by_cases hij : i = j
          · subst hij
            rw [hg] at he'
            cases he'
            exact hlt
          · exact hlow i (by omega) e' he'
        · rw [if_neg (show ¬ (ordS (some e) < x) from hlt)]
          exact Or.inl ⟨j, e, hjl, ⟨hg, hlt, hlow⟩, rfl⟩
  have e0 : sla g o a n 0 = g.st (o.ta n) + 1 := by unfold sla; rw [Nat.zero_mul]
  have hrun : mp_slotFrom z (Int32.ofNat (o.ho n)) x = mp_slotFrom_l21 FU x (Int32.ofNat (3 + a.nk n + a.nv n)) (Int32.ofNat (sla g o a n (a.sl n).length)) (Int32.ofNat (sla g o a n 0)) z := by
    unfold mp_slotFrom
    rw [slotWords_e F okm, PB.2.1, slotsEnd_e c on k4, PB.2.1, slotsStart_e c on k4, PB.2.1, e0]
    rfl
  rw [hrun]
  have nc := nc_le okm
  exact loop2 (a.sl n).length 0 FU (by omega) (by unfold FU; omega) (fun i hi => by omega)
