/-! next on both sides. -/
def NxR (a : Ab) (n : Nat) (x y : Int32) : Prop := (∃ e, e ∈ ens (a.sl n) ∧ ¬ (Int32.ofNat e.1 < x) ∧ (∀ e', e' ∈ ens (a.sl n) → ¬ (Int32.ofNat e'.1 < x) → e.1 ≤ e'.1) ∧ y = Int32.ofNat e.1) ∨ ((∀ e, e ∈ ens (a.sl n) → Int32.ofNat e.1 < x) ∧ y = -1)
theorem NxR_u {a : Ab} {n : Nat} {x y y' : Int32} (h : NxR a n x y) (h' : NxR a n x y') : y = y' := by
  rcases h with ⟨e, e1, e2, e3, e4⟩ | ⟨e1, e2⟩
  · rcases h' with ⟨d, d1, d2, d3, d4⟩ | ⟨d1, d2⟩
    · have q1 := e3 d d1 d2
      have q2 := d3 e e1 e2
      rw [e4, d4, show e.1 = d.1 from by omega]
    · exact absurd (d1 e e1) e2
  · rcases h' with ⟨d, d1, d2, d3, d4⟩ | ⟨d1, d2⟩
    · exact absurd (e1 d d1) d2
    · rw [e2, d2]
theorem SfR_min {a : Ab} {n j : Nat} {x : Int32} {e : Nat × (Nat → Wrd)} (m : okM a n) (h : SfR a n x j e) : ∀ e', e' ∈ ens (a.sl n) → ¬ (Int32.ofNat e'.1 < x) → e.1 ≤ e'.1 := by
  intro e' he' hx
  obtain ⟨l, hl, el⟩ := ens_get he'
  by_cases hlj : l < j
  · exact absurd (h.2.2 l hlj e' el) hx
  · by_cases heq : l = j
    · subst heq
      have := h.1.symm.trans el
      cases this
      exact Nat.le_refl _
    · exact Nat.le_of_lt (sl_srt m.srt h.1 el (by omega))
theorem el_ens {a : Ab} {n : Nat} (A : AI a) (on : obj a n) (k4 : a.kd n = 4) {e : Nat × (Nat → Wrd)} : e ∈ ens (a.sl n) ↔ (n, e) ∈ a.el := by
  rw [A.cn n on k4, List.mem_map]
  constructor
  · intro ⟨t, ht, et⟩
    obtain ⟨h1, h2⟩ := List.mem_filter.mp ht
    have h2 : t.1 = n := by simpa using h2
    have : t = (n, e) := Prod.ext h2 et
    rw [← this]; exact h1
  · intro h
    exact ⟨(n, e), List.mem_filter.mpr ⟨h, by simp⟩, rfl⟩
theorem md_next_r {m : Ms} {q : Gm} {a : Ab} {n i : Nat} {x : Int32} (R : RM m q a) (A : AI a) (hi : i < 16) (hg : a.rg i = .inr (n, 0)) (on : obj a n) (k4 : a.kd n = 4) : ∃ y, md_next_l43 FU (Int32.ofNat i) x (-1) 0 m = some (m, y) ∧ NxR a n x y := by
  have okm := A.mp on k4
  have md := A.md
  have tn := A.tn
  have no := okm.no
  have hn := on.2.1
  have n0 : n ≠ 0 := by have := on.1; omega
  have zel := R.z.el
  have hle := R.e.le
  have tgn : m.atg i = Int32.ofNat n := by rw [(R.rg i hi).1, hg]; exact tgW_o n0
  have lt : ∀ e, (h : e < a.el.length) → (a.el[e]).1 = n → (a.el[e]).2.1 < 1001 := by
    intro e he hen
    have hm : (n, (a.el[e]).2) ∈ a.el := by
      rw [← hen]
      exact List.getElem_mem he
    have := okm.lt _ ((el_ens A on k4).mpr hm)
    omega
  have loop : ∀ k e fu x3, e + k = a.el.length → k < fu →
      ((x3 = -1 ∧ ∀ l, (h : l < a.el.length) → l < e → (a.el[l]).1 = n → Int32.ofNat (a.el[l]).2.1 < x) ∨ (∃ b, ∃ h : b < a.el.length, (a.el[b]).1 = n ∧ x3 = Int32.ofNat (a.el[b]).2.1 ∧ ¬ (Int32.ofNat (a.el[b]).2.1 < x) ∧ ∀ l, (h : l < a.el.length) → l < e → (a.el[l]).1 = n → ¬ (Int32.ofNat (a.el[l]).2.1 < x) → (a.el[b]).2.1 ≤ (a.el[l]).2.1)) →
      ∃ y, md_next_l43 fu (Int32.ofNat i) x x3 (Int32.ofNat e) m = some (m, y) ∧ NxR a n x y := by
    intro k
    induction k with
    | zero =>
      intro e fu x3 he hfu inv
      obtain ⟨f, rfl⟩ : ∃ f, fu = f + 1 := ⟨fu - 1, by omega⟩
      refine ⟨x3, ?_, ?_⟩
      · rw [md_next_l43, R.e.ent, if_pos ((q_le (by omega) (by omega)).mpr (by omega))]
      · rcases inv with ⟨i1, i2⟩ | ⟨b, hb, b1, b2, b3, b4⟩
        · refine Or.inr ⟨?_, i1⟩
          intro e' he'
          obtain ⟨l, hl, el⟩ := List.getElem_of_mem ((el_ens A on k4).mp he')
          have := i2 l hl (by omega) (by rw [el])
          rw [el] at this
          exact this
        · refine Or.inl ⟨(a.el[b]).2, ?_, b3, ?_, b2⟩
          · refine (el_ens A on k4).mpr ?_
            rw [← b1]
            exact List.getElem_mem hb
          · intro e' he' hx
            obtain ⟨l, hl, el⟩ := List.getElem_of_mem ((el_ens A on k4).mp he')
            have := b4 l hl (by omega) (by rw [el]) (by rw [el]; exact hx)
            rw [el] at this
            exact this
    | succ k ih =>
      intro e fu x3 he hfu inv
      obtain ⟨f, rfl⟩ : ∃ f, fu = f + 1 := ⟨fu - 1, by omega⟩
      have hel : e < a.el.length := by omega
      have e1 : Int32.ofNat e + 1 = Int32.ofNat (e + 1) := q_add e 1
      have hm := (A.el _ (List.getElem_mem hel)).1.2.1
      have hd : md_next_l43 (f + 1) (Int32.ofNat i) x x3 (Int32.ofNat e) m = if (a.el[e]).1 = n ∧ ¬ (Int32.ofNat (a.el[e]).2.1 < x) ∧ (x3 < 0 ∨ ¬ (x3 ≤ Int32.ofNat (a.el[e]).2.1)) then md_next_l43 f (Int32.ofNat i) x (Int32.ofNat (a.el[e]).2.1) (Int32.ofNat (e + 1)) m else md_next_l43 f (Int32.ofNat i) x x3 (Int32.ofNat (e + 1)) m := by
        rw [md_next_l43, R.e.ent, if_neg (fun d => absurd ((q_le (by omega) (by omega)).mp d) (by omega)), R.z.eo, R.z.tg, q_inb (show e < m.nem by omega) (by omega), q_inb hi (by omega), gdT, gdT, q_nat (show e < 2147483648 by omega), q_nat (show i < 2147483648 by omega), R.e.mp e hel, R.e.od e hel, tgn]
        unfold md_next_j83 md_next_j84 md_next_j116 md_next_j106
        rw [R.z.eo, q_inb (show e < m.nem by omega) (by omega), q_nat (show e < 2147483648 by omega), R.e.od e hel, e1]
        simp only [gdT]
        by_cases c1 : (a.el[e]).1 = n
        · rw [if_pos (by rw [c1])]
          by_cases c2 : Int32.ofNat (a.el[e]).2.1 < x
          · rw [if_pos c2, if_pos trivial, if_neg (fun d => d.2.1 c2)]
          · rw [if_neg c2, if_neg ne10]
            by_cases c3 : x3 < 0
            · rw [if_pos c3, if_pos ⟨c1, c2, Or.inl c3⟩]
            · rw [if_neg c3]
              by_cases c4 : x3 ≤ Int32.ofNat (a.el[e]).2.1
              · rw [if_pos c4, if_neg (fun d => d.2.2.elim c3 (fun h => h c4))]
              · rw [if_neg c4, if_pos ⟨c1, c2, Or.inr c4⟩]
        · rw [if_neg (q_nek _ (by omega) (by omega) c1), if_pos trivial, if_neg (fun d => c1 d.1)]
      rw [hd]
      by_cases hc : (a.el[e]).1 = n ∧ ¬ (Int32.ofNat (a.el[e]).2.1 < x) ∧ (x3 < 0 ∨ ¬ (x3 ≤ Int32.ofNat (a.el[e]).2.1))
      · rw [if_pos hc]
        refine ih (e + 1) f _ (by omega) (by omega) (Or.inr ⟨e, hel, hc.1, rfl, hc.2.1, ?_⟩)
        intro l hl hle2 hln hlx
        by_cases hle3 : l = e
        · subst hle3; exact Nat.le_refl _
        · rcases inv with ⟨i1, i2⟩ | ⟨b, hb, b1, b2, b3, b4⟩
          · exact absurd (i2 l hl (by omega) hln) hlx
          · have q1 := b4 l hl (by omega) hln hlx
            have q2 := lt b hb b1
            have q3 := lt e hel hc.1
            rcases hc.2.2 with d | d
            · rw [b2] at d
              exact absurd d (q_nlt0 (by omega))
            · rw [b2] at d
              have : ¬ ((a.el[b]).2.1 ≤ (a.el[e]).2.1) := fun h => d ((q_le (by omega) (by omega)).mpr h)
              omega
      · rw [if_neg hc]
        refine ih (e + 1) f x3 (by omega) (by omega) ?_
        rcases inv with ⟨i1, i2⟩ | ⟨b, hb, b1, b2, b3, b4⟩
        · refine Or.inl ⟨i1, ?_⟩
          intro l hl hle2 hln
          by_cases hle3 : l = e
          · subst hle3
            by_cases c2 : Int32.ofNat (a.el[l]).2.1 < x
            · exact c2
            · refine absurd ⟨hln, c2, Or.inl ?_⟩ hc
              rw [i1]; decide
          · exact i2 l hl (by omega) hln
        · refine Or.inr ⟨b, hb, b1, b2, b3, ?_⟩
          intro l hl hle2 hln hlx
          by_cases hle3 : l = e
          · subst hle3
            by_cases c4 : x3 ≤ Int32.ofNat (a.el[l]).2.1
            · rw [b2] at c4
              have q2 := lt b hb b1
              have q3 := lt l hl hln
              exact (q_le (by omega) (by omega)).mp c4
            · exact absurd ⟨hln, hlx, Or.inr c4⟩ hc
          · exact b4 l hl (by omega) hln hlx
  have := loop a.el.length 0 FU (-1) (by omega) (by unfold FU; omega) (Or.inl ⟨rfl, fun l _ hl => by omega⟩)
  exact this
theorem J_next {z : Lo} {m : Ms} {lm t : Nat} (r x : Int32) (S : St z.h m lm t) : ∃ z2 m2 k b, la_next z r x = some (z2, k) ∧ md_next m r x = some (m2, b) ∧ m2.thr = k ∧ (k = 0 → z2.aot 0 = b.toInt64) ∧ St z2.h m2 lm t ∧ Pot lm z2.h m2 = Pot lm z.h m := by
  obtain ⟨g, o, q, a, c, R, A, h1, h2⟩ := S
  have l00 : (0 : Int32) ≤ 0 := by decide
  have l10 : ¬ ((1 : Int32) ≤ 0) := by decide
  have l20 : ¬ ((2 : Int32) ≤ 0) := by decide
  rcases reg_c r with ⟨i, hi, rfl⟩ | hr
  · have ok := A.rg i hi
    obtain ⟨X, hX⟩ : ∃ X, X = wh_next z.h (Int32.ofNat i) x := ⟨_, rfl⟩
    have hc0 := hX.symm
    unfold wh_next at hX
    rw [nreg_y hi, PB.2.2.2.1, mapIn_e c A hi] at hX
    obtain ⟨Y, hY⟩ : ∃ Y, Y = md_next m (Int32.ofNat i) x := ⟨_, rfl⟩
    have hm0 := hY.symm
    unfold md_next at hY
    rw [mreg_y hi, PB.2.1, if_neg ne10, show md_is m (Int32.ofNat i) 4 = some (if kW a (a.rg i) = 4 then 1 else 0) from md_is_e (k := 4) R A hi (by omega), PB.2.1] at hY
    by_cases hk : kW a (a.rg i) = 4
    · obtain ⟨n, p, e, on, k4, _, _, hp0⟩ := kW_obj A ok (by omega) hk
      have := hp0 (by omega)
      subst this
      have okm := A.mp on k4
      have hh : hW o (a.rg i) = o.ho n := by rw [e]; rfl
      rw [if_pos hk, PB.2.2.2.1, hh] at hX
      rw [if_pos hk, if_neg ne10] at hY
      obtain ⟨y, f2, n2⟩ := md_next_r (m := Ms.sthr m 0) (x := x) R A hi e on k4
      have hcl : ∃ y1, wh_next z.h (Int32.ofNat i) x = some (.inr y1) ∧ NxR a n x y1 := by
        rcases slotFrom_e (x := x) c A on k4 with ⟨j, en, hj, sf, f1⟩ | ⟨q1, f1⟩
        · have hb := (sla_in (i := 0) c on k4 (show j < a.nc n by have := okm.sl; omega) (by omega)).2.1
          rw [Nat.add_zero] at hb
          rw [f1, PB.2.1, if_neg (Int32.neg1_ne (by omega)), orderIn_e c on k4 (by have := okm.sl; omega) sf.1, PB.2.1] at hX
          exact ⟨Int32.ofNat en.1, hc0.trans hX, Or.inl ⟨en, ens_mem sf.1, sf.2.1, SfR_min okm sf, rfl⟩⟩
        · rw [f1, PB.2.1, if_pos rfl] at hX
          exact ⟨-1, hc0.trans hX, Or.inr ⟨q1, rfl⟩⟩
      obtain ⟨y1, f3, n3⟩ := hcl
      have hyy := NxR_u n3 n2
      subst hyy
      refine ⟨Lo.wot z (vp_updL z.aot ((0 : Int32).toNatClampNeg) y1.toInt64), Ms.sthr m 0, 0, y1, ?_, ?_, rfl, fun _ => rfl, ⟨g, o, q, a, c, R, A, h1, h2⟩, rfl⟩
      · unfold la_next
        rw [f3, PH2.2.1, inb01, gdT]
      · rw [hm0, hY]
        unfold md_next_j26
        rw [if_pos l00]
        exact f2
    · rw [if_neg hk, PB.2.2.1] at hX
      rw [if_neg hk, if_pos rfl] at hY
      refine ⟨z, Ms.sthr m 2, 2, 0, ?_, ?_, rfl, fun h => absurd h (by decide), ⟨g, o, q, a, c, R, A, h1, h2⟩, rfl⟩
      · unfold la_next
        rw [hc0, hX, PH2.1, if_neg (by decide), if_pos rfl]
      · rw [hm0, hY]
        unfold md_next_j26
        rw [if_neg l20]
  · refine ⟨z, Ms.sthr m 1, 1, 0, ?_, ?_, rfl, fun h => absurd h (by decide), ⟨g, o, q, a, c, R, A, h1, h2⟩, rfl⟩
    · unfold la_next wh_next
      rw [nreg_n hr, PB.2.2.1, PH2.1, if_pos rfl]
    · unfold md_next md_next_j26
      rw [mreg_n hr, PB.2.1, if_pos rfl, if_neg l10]
