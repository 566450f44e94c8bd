/-! The entry of a key, on both sides. -/
theorem sla_b {z : Hs} {g : Gh} {o : Go} {a : Ab} {n j : Nat} (c : RC z g o a) (A : AI a) (on : obj a n) (k4 : a.kd n = 4) (hj : j ≤ a.nc n) : sla g o a n j < 2147483000 := by
  have T := ((c.ob n on).mp k4).2
  have tm := Til_mem c.i.til T.m
  have szt : g.sz (o.ta n) = 1 + a.nc n * (3 + a.nk n + a.nv n) := by unfold Gh.sz; rw [T.kd, T.ln]; rfl
  have hjk : j * (3 + a.nk n + a.nv n) ≤ a.nc n * (3 + a.nk n + a.nv n) := Nat.mul_le_mul_right _ (by omega)
  have b2 := c.i.hb.2.1
  have eb := c.i.eb
  unfold sla
  omega
theorem sla_s {g : Gh} {o : Go} {a : Ab} {n : Nat} (j : Nat) : Int32.ofNat (sla g o a n j) + Int32.ofNat (3 + a.nk n + a.nv n) = Int32.ofNat (sla g o a n (j + 1)) := by
  rw [q_add]
  congr 1
  unfold sla
  rw [Nat.add_mul, Nat.one_mul]
  omega
theorem sla_m {g : Gh} {o : Go} {a : Ab} {n i j : Nat} (hij : i < j) : sla g o a n i + (3 + a.nk n + a.nv n) ≤ sla g o a n j := by
  have : (i + 1) * (3 + a.nk n + a.nv n) ≤ j * (3 + a.nk n + a.nv n) := Nat.mul_le_mul_right _ (by omega)
  rw [Nat.add_mul, Nat.one_mul] at this
  unfold sla
  omega
/-- the first entry whose key is kw -/
def FdR (a : Ab) (n : Nat) (kw : Nat → Wrd) (e : Nat × (Nat → Wrd)) : Prop := e ∈ ens (a.sl n) ∧ mtc a n e.2 kw ∧ ∀ e', e' ∈ ens (a.sl n) → mtc a n e'.2 kw → e.1 ≤ e'.1
theorem FdR_u {a : Ab} {n : Nat} {kw : Nat → Wrd} {e e' : Nat × (Nat → Wrd)} (m : okM a n) (h : FdR a n kw e) (h' : FdR a n kw e') : e = e' := by
  have h1 := h.2.2 e' h'.1 h'.2.1
  have h2 := h'.2.2 e h.1 h.2.1
  exact ens_u m h.1 h'.1 (by omega)
theorem slotOfKey_e {z : Hs} {g : Gh} {o : Go} {a : Ab} {n y : Nat} {kw : Nat → Wrd} (c : RC z g o a) (A : AI a) (on : obj a n) (k4 : a.kd n = 4) (hy : ∀ i, i < a.nk n → y + i < z.nbt ∧ wat z o (y + i) (kw i) ∧ okW a (kw i)) (tk : tkk a n kw) :
    (∃ j e, j < (a.sl n).length ∧ (a.sl n)[j]? = some (some e) ∧ FdR a n kw e ∧ mp_slotOfKey z (Int32.ofNat (o.ho n)) (Int32.ofNat y) = some (Int32.ofNat (sla g o a n j))) ∨ ((∀ e, e ∈ ens (a.sl n) → ¬ mtc a n e.2 kw) ∧ mp_slotOfKey z (Int32.ofNat (o.ho n)) (Int32.ofNat y) = some (-1)) := by
  have okm := A.mp on k4
  have F := c.mf on k4
  have tn := A.tn
  have no := okm.no
  have hsl := okm.sl
  have T := ((c.ob n on).mp k4).2
  have hst : ∀ j, j ≤ (a.sl n).length → sla g o a n j < 2147483000 := fun j hj => sla_b c A on k4 (by omega)
  have loop2 : ∀ k j fu, j + k = (a.sl n).length → k < fu → (∀ i, i < j → ∀ e', (a.sl n)[i]? = some (some e') → ¬ mtc a n e'.2 kw) →
      (∃ l e, l < (a.sl n).length ∧ (a.sl n)[l]? = some (some e) ∧ FdR a n kw e ∧ mp_slotOfKey_l21 fu (Int32.ofNat (o.ho n)) (Int32.ofNat y) (Int32.ofNat (3 + a.nk n + a.nv n)) (Int32.ofNat (sla g o a n (a.sl n).length)) (Int32.ofNat (sla g o a n j)) z = some (Int32.ofNat (sla g o a n l))) ∨ ((∀ e, e ∈ ens (a.sl n) → ¬ mtc a n e.2 kw) ∧ mp_slotOfKey_l21 fu (Int32.ofNat (o.ho n)) (Int32.ofNat y) (Int32.ofNat (3 + a.nk n + a.nv n)) (Int32.ofNat (sla g o a n (a.sl n).length)) (Int32.ofNat (sla g o a n j)) z = some (-1)) := by
    intro k
    induction k with
    | zero =>
      intro j fu hj hfu hlow
      obtain ⟨f, rfl⟩ : ∃ f, fu = f + 1 := ⟨fu - 1, by omega⟩
      have hje : j = (a.sl n).length := by omega
      subst hje
      have hs := hst _ (Nat.le_refl _)
      refine Or.inr ⟨?_, ?_⟩
      · intro e he
        obtain ⟨l, hl, el⟩ := ens_get he
        exact hlow l hl e el
      · rw [mp_slotOfKey_l21, if_pos ((q_le (by omega) (by omega)).mpr (Nat.le_refl _))]
    | succ k ih =>
      intro j fu hj hfu hlow
      obtain ⟨f, rfl⟩ : ∃ f, fu = f + 1 := ⟨fu - 1, by omega⟩
      have hjl : j < (a.sl n).length := by omega
      have hm := sla_m (g := g) (o := o) (a := a) (n := n) hjl
      have hs := hst _ (Nat.le_refl _)
      have hg : (a.sl n)[j]? = some ((a.sl n)[j]) := List.getElem?_eq_getElem hjl
      obtain ⟨s, hsE⟩ : ∃ s, s = (a.sl n)[j] := ⟨_, rfl⟩
      rw [← hsE] at hg
      have ho := orderIn_e c on k4 (by omega) hg
      have e3 : Int32.ofNat (sla g o a n j) + 3 = Int32.ofNat (sla g o a n j + 3) := q_add _ 3
      rw [mp_slotOfKey_l21, if_neg (fun d => absurd ((q_le (by omega) (by omega)).mp d) (by omega)), ho, PB.2.1, sla_s, e3]
      cases s with
      | none =>
        rw [if_pos (show ordS none = -1 from rfl)]
        refine ih (j + 1) f (by omega) (by omega) ?_
        intro i hi e' he'
        by_cases hij : i = j
        · subst hij
          rw [hg] at he'
          cases he'
        · exact hlow i (by omega) e' he'
      | some e =>
        have em := ens_mem hg
        have elt := okm.lt e em
        have Sl := T.sl j (by omega)
        rw [hg] at Sl
        rw [if_neg (show ¬ (ordS (some e) = -1) from Int32.neg1_ne (by omega))]
        obtain ⟨r, r1, r2⟩ := alikeKeys_e (x := sla g o a n j + 3) (ws := e.2) c A on k4 (by
          intro i hi
          have hb := (sla_in (i := 3 + i) c on k4 (show j < a.nc n by omega) (by omega)).1
          exact ⟨by omega, Sl.2.2.2.2 i (by omega), okm.wd e em i (by omega)⟩) hy (fun i hi ht => ⟨okm.tx e em i hi ht, tk i hi ht⟩)
        rw [r1, PB.2.1]
        rcases r2 with ⟨rfl, r3⟩ | ⟨rfl, r3⟩
        · rw [if_neg ne10]
          refine Or.inl ⟨j, e, hjl, hg, ⟨em, r3, ?_⟩, rfl⟩
          intro e' he' m'
          obtain ⟨l, hl, el⟩ := ens_get he'
          by_cases hlj : l < j
          · exact absurd m' (hlow l hlj e' el)
          · by_cases heq : l = j
            · subst heq
              have := hg.symm.trans el
              cases this
              exact Nat.le_refl _
            · exact Nat.le_of_lt (sl_srt okm.srt hg el (by omega))
        · rw [if_pos rfl]
          refine ih (j + 1) f (by omega) (by omega) ?_
          intro i hi e' he'
          by_cases hij : i = j
          · subst hij
            rw [hg] at he'
            cases he'
            exact r3
          · exact hlow i (by omega) e' he'
  have e0 : sla g o a n 0 = g.st (o.ta n) + 1 := by unfold sla; rw [Nat.zero_mul]
  have hrun : mp_slotOfKey z (Int32.ofNat (o.ho n)) (Int32.ofNat y) = mp_slotOfKey_l21 FU (Int32.ofNat (o.ho n)) (Int32.ofNat y) (Int32.ofNat (3 + a.nk n + a.nv n)) (Int32.ofNat (sla g o a n (a.sl n).length)) (Int32.ofNat (sla g o a n 0)) z := by
    unfold mp_slotOfKey
    rw [slotWords_e F okm, PB.2.1, slotsEnd_e c on k4, PB.2.1, slotsStart_e c on k4, PB.2.1, e0]
    rfl
  rw [hrun]
  have nc := nc_le okm
  exact loop2 (a.sl n).length 0 FU (by omega) (by unfold FU; omega) (fun i hi => by omega)
/-- entries of one map stand in order -/
theorem el_srt {a : Ab} {n : Nat} (A : AI a) (on : obj a n) (k4 : a.kd n = 4) {i j : Nat} (hij : i < j) (hj : j < a.el.length) (h1 : (a.el[i]).1 = n) (h2 : (a.el[j]).1 = n) : (a.el[i]).2.1 < (a.el[j]).2.1 := by
  have okm := A.mp on k4
  have s := okm.srt
  rw [A.cn n on k4, List.pairwise_map, List.pairwise_filter, List.pairwise_iff_getElem] at s
  exact s i j (by omega) hj hij (by simp [h1]) (by simp [h2])
theorem md_find_e {m : Ms} {q : Gm} {a : Ab} {n s p ir jr : Nat} (R : RM m q a) (A : AI a) (hi : ir < 16) (hj : jr < 16) (gi : a.rg ir = .inr (n, 0)) (on : obj a n) (k4 : a.kd n = 4) (gj : a.rg jr = .inr (s, p)) (os : obj a s) (k2 : a.kd s = 2) (hl : p + (a.nk n + a.nv n) ≤ a.ln s) (tk : tkk a n (fun i => a.wo s (p + i))) :
    (∃ b, ∃ h : b < a.el.length, (a.el[b]).1 = n ∧ FdR a n (fun i => a.wo s (p + i)) (a.el[b]).2 ∧ md_find m (Int32.ofNat ir) (Int32.ofNat jr) = some (Int32.ofNat b)) ∨ ((∀ e, e ∈ ens (a.sl n) → ¬ mtc a n e.2 (fun i => a.wo s (p + i))) ∧ md_find m (Int32.ofNat ir) (Int32.ofNat jr) = some (-1)) := by
  have okm := A.mp on k4
  have okr := A.rw os k2
  have nk := okm.nk
  have nv := okm.nv
  have zk := R.z.K
  have hK := R.k
  have hn := on.2.1
  have n0 : n ≠ 0 := by have := on.1; omega
  have md := A.md
  have tn := A.tn
  have tgn : m.atg ir = Int32.ofNat n := by rw [(R.rg ir hi).1, gi]; exact tgW_o n0
  have om := (R.ob n on).mp k4
  have or2 := (R.ob s os).rw k2
  have zw := R.z.wl
  have or1 := or2.2.1
  have zel := R.z.el
  have hle := R.e.le
  have e8 : ∀ b y, 8 * Int32.ofNat b + Int32.ofNat y = Int32.ofNat (8 * b + y) := by
    intro b y
    have := q_mul 8 b
    rw [show (8 : Int32) = Int32.ofNat 8 from rfl, this, q_add]
  have l0 : ∀ K10 f e i, md_find_l40 K10 (f + 1) (Int32.ofNat jr) (Int32.ofNat n) (Int32.ofNat e) 0 (Int32.ofNat i) m = K10 (Int32.ofNat jr) (Int32.ofNat n) (Int32.ofNat (e + 1)) m := by
    intro K10 f e i
    have e1 : Int32.ofNat e + 1 = Int32.ofNat (e + 1) := q_add e 1
    rw [md_find_l40, R.z.ke, q_inb (show n < q.K by omega) (by omega), gdT]
    unfold md_find_j121
    rw [e1]
    split <;> rfl
  have inner : ∀ K10 e, (he : e < a.el.length) → (a.el[e]).1 = n → ∀ k i fu, i + k = a.nk n → k + 1 < fu → (∀ l, l < i → alk a n l ((a.el[e]).2.2 l) (a.wo s (p + l))) → (mtc a n (a.el[e]).2.2 (fun i => a.wo s (p + i)) ∧ md_find_l40 K10 fu (Int32.ofNat jr) (Int32.ofNat n) (Int32.ofNat e) 1 (Int32.ofNat i) m = some (Int32.ofNat e)) ∨ (¬ mtc a n (a.el[e]).2.2 (fun i => a.wo s (p + i)) ∧ md_find_l40 K10 fu (Int32.ofNat jr) (Int32.ofNat n) (Int32.ofNat e) 1 (Int32.ofNat i) m = K10 (Int32.ofNat jr) (Int32.ofNat n) (Int32.ofNat (e + 1)) m) := by
    intro K10 e he hen k
    have em : (a.el[e]).2 ∈ ens (a.sl n) := by
      refine (el_ens A on k4).mpr ?_
      rw [← hen]
      exact List.getElem_mem he
    induction k with
    | zero =>
      intro i fu hi2 hfu hall
      obtain ⟨f, rfl⟩ : ∃ f, fu = f + 1 := ⟨fu - 1, by omega⟩
      refine Or.inl ⟨fun l hl2 => hall l (by omega), ?_⟩
      rw [md_find_l40, R.z.ke, q_inb (show n < q.K by omega) (by omega), gdT, q_nat (show n < 2147483648 by omega), om.1, if_pos ((q_le (by omega) (by omega)).mpr (by omega))]
      unfold md_find_j121
      rw [if_neg ne10]
    | succ k ih =>
      intro i fu hi2 hfu hall
      obtain ⟨f, rfl⟩ : ∃ f, fu = f + 1 := ⟨fu - 1, by omega⟩
      have e1 : Int32.ofNat i + 1 = Int32.ofNat (i + 1) := q_add i 1
      have ok := okr.2 (p + i) (by omega)
      have we := R.e.wd e he i (by rw [hen]; omega)
      have wo := or2.2.2 (p + i) (by omega)
      obtain ⟨r, r1, r2⟩ := md_alikeWord_e (i := i) (w := (a.el[e]).2.2 i) (v := a.wo s (p + i)) R A on k4 (by omega) (okm.wd _ em i (by omega)) ok (fun ht => ⟨okm.tx _ em i (by omega) ht, tk i (by omega) ht⟩)
      rw [md_find_l40, R.z.ke, q_inb (show n < q.K by omega) (by omega), gdT, q_nat (show n < 2147483648 by omega), om.1, if_neg (fun d => absurd ((q_le (by omega) (by omega)).mp d) (by omega)), if_neg ne10, e8, R.z.et, R.z.ev, q_inb (show 8 * e + i < 8 * m.nem by omega) (by omega), gdT, gdT, md_at_e (x := p + i) R A hj gj os k2 (q_add p i), PB.2.1, PB.2.1, q_inb (show q.sr s + (p + i) < m.nwt by omega) (by omega), gdT, R.z.wt, q_inb (show q.sr s + (p + i) < m.nwt by omega) (by omega), gdT, q_nat (show 8 * e + i < 2147483648 by omega), q_nat (show q.sr s + (p + i) < 2147483648 by omega), we.1, we.2, wo.1, wo.2, r1, PB.2.1, e1]
      rcases r2 with ⟨rfl, r3⟩ | ⟨rfl, r3⟩
      · refine ih (i + 1) f (by omega) (by omega) ?_
        intro l hl2
        by_cases hli : l = i
        · rw [hli]; exact r3
        · exact hall l (by omega)
      · obtain ⟨f', rfl⟩ : ∃ f', f = f' + 1 := ⟨f - 1, by omega⟩
        refine Or.inr ⟨fun d => r3 (d i (by omega)), ?_⟩
        exact l0 K10 f' e (i + 1)
  have loop : ∀ k e fu, e + k = a.el.length → k < fu → (∀ l, (h : l < a.el.length) → l < e → (a.el[l]).1 = n → ¬ mtc a n (a.el[l]).2.2 (fun i => a.wo s (p + i))) →
      (∃ b, ∃ h : b < a.el.length, (a.el[b]).1 = n ∧ FdR a n (fun i => a.wo s (p + i)) (a.el[b]).2 ∧ md_find_l10 fu (Int32.ofNat jr) (Int32.ofNat n) (Int32.ofNat e) m = some (Int32.ofNat b)) ∨ ((∀ e, e ∈ ens (a.sl n) → ¬ mtc a n e.2 (fun i => a.wo s (p + i))) ∧ md_find_l10 fu (Int32.ofNat jr) (Int32.ofNat n) (Int32.ofNat e) m = some (-1)) := by
    intro k
    induction k with
    | zero =>
      intro e fu he hfu hall
      obtain ⟨f, rfl⟩ : ∃ f, fu = f + 1 := ⟨fu - 1, by omega⟩
      refine Or.inr ⟨?_, ?_⟩
      · intro e' he'
        obtain ⟨l, hl2, el⟩ := List.getElem_of_mem ((el_ens A on k4).mp he')
        have := hall l hl2 (by omega) (by rw [el])
        rw [el] at this
        exact this
      · rw [md_find_l10, R.e.ent, if_pos ((q_le (by omega) (by omega)).mpr (by omega))]
    | succ k ih =>
      intro e fu he hfu hall
      obtain ⟨f, rfl⟩ : ∃ f, fu = f + 1 := ⟨fu - 1, by omega⟩
      have hel : e < a.el.length := by omega
      have hm := (A.el _ (List.getElem_mem hel)).1.2.1
      rw [md_find_l10, R.e.ent, if_neg (fun d => absurd ((q_le (by omega) (by omega)).mp d) (by omega)), q_inb (show e < m.nem by omega) (by omega), gdT, q_nat (show e < 2147483648 by omega), R.e.mp e hel]
      by_cases c1 : (a.el[e]).1 = n
      · rw [if_pos (by rw [c1])]
        have := inner (md_find_l10 f) e hel c1 (a.nk n) 0 FU (by omega) (by unfold FU; omega) (fun l hl => by omega)
        rcases this with ⟨m1, m2⟩ | ⟨m1, m2⟩
        · refine Or.inl ⟨e, hel, c1, ⟨?_, m1, ?_⟩, m2⟩
          · refine (el_ens A on k4).mpr ?_
            rw [← c1]
            exact List.getElem_mem hel
          · intro e' he' m'
            obtain ⟨l, hl2, el⟩ := List.getElem_of_mem ((el_ens A on k4).mp he')
            have el1 : (a.el[l]).1 = n := by rw [el]
            have el2 : (a.el[l]).2 = e' := by rw [el]
            by_cases hle1 : l < e
            · refine absurd ?_ (hall l hl2 hle1 el1)
              rw [el2]; exact m'
            · by_cases hle2 : l = e
              · subst hle2
                rw [el2]; exact Nat.le_refl _
              · have := el_srt A on k4 (show e < l by omega) hl2 c1 el1
                rw [el2] at this
                omega
        · have m2 : md_find_l40 (md_find_l10 f) FU (Int32.ofNat jr) (Int32.ofNat n) (Int32.ofNat e) 1 0 m = _ := m2
          rw [m2]
          refine ih (e + 1) f (by omega) (by omega) ?_
          intro l hl2 hle2 hln
          by_cases hle3 : l = e
          · subst hle3; exact m1
          · exact hall l hl2 (by omega) hln
      · rw [if_neg (q_nek _ (by omega) (by omega) c1)]
        have := l0 (md_find_l10 f) 2097151 e 0
        obtain ⟨F, hF⟩ : ∃ F, FU = F + 1 := ⟨FU - 1, by unfold FU; omega⟩
        rw [hF, show (0 : Int32) = Int32.ofNat 0 from rfl, show md_find_l40 (md_find_l10 f) (F + 1) (Int32.ofNat jr) (Int32.ofNat n) (Int32.ofNat e) (Int32.ofNat 0) (Int32.ofNat 0) m = _ from l0 (md_find_l10 f) F e 0]
        refine ih (e + 1) f (by omega) (by omega) ?_
        intro l hl2 hle2 hln
        by_cases hle3 : l = e
        · subst hle3; exact absurd hln c1
        · exact hall l hl2 (by omega) hln
  unfold md_find
  rw [R.z.tg, q_inb hi (by omega), gdT, q_nat (show ir < 2147483648 by omega), tgn]
  exact loop a.el.length 0 FU (by omega) (by unfold FU; omega) (fun l _ hl => by omega)
