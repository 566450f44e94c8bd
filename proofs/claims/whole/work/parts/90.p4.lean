/-! tell on both sides. -/
theorem J_tell {z : Lo} {m : Ms} {lm t : Nat} (r p : Int32) (S : St z.h m lm t) : ∃ z2 m2 k b, la_tell z r p = some (z2, k) ∧ md_tell m r p = some (m2, b) ∧ m2.thr = k ∧ (k = 0 → z2.aot 0 = b.toInt64) ∧ St z2.h m2 lm t ∧ Pot lm z2.h m2 = Pot lm z.h m := by
  obtain ⟨g, o, q, a, c, R, A, h1, h2⟩ := S
  have l00 : (0 : Int32) ≤ 0 := by decide
  have l10 : ¬ ((1 : Int32) ≤ 0) := by decide
  have bad : wh_tell z.h r p = some (.inl "java/lang/IllegalArgumentException") → md_tell m r p = md_tell_j17 r p m → ∃ z2 m2 k b, la_tell z r p = some (z2, k) ∧ md_tell m r p = some (m2, b) ∧ m2.thr = k ∧ (k = 0 → z2.aot 0 = b.toInt64) ∧ St z2.h m2 lm t ∧ Pot lm z2.h m2 = Pot lm z.h m := by
    intro e1 e2
    refine ⟨z, Ms.sthr m 1, 1, 0, ?_, ?_, rfl, fun h => absurd h (by decide), ⟨g, o, q, a, c, R, A, h1, h2⟩, rfl⟩
    · unfold la_tell
      rw [e1, PH2.1, if_pos rfl]
    · rw [e2]
      unfold md_tell_j17 md_tell_j22
      rw [if_neg l10]
  rcases reg_c r with ⟨i, hi, rfl⟩ | hr
  · by_cases hp : 0 ≤ p ∧ p ≤ 4
    · obtain ⟨x, hx, rfl⟩ := rng_c 4 (by omega) hp
      have key : ∀ b, wh_tell z.h (Int32.ofNat i) (Int32.ofNat x) = some (.inr b) → md_tell m (Int32.ofNat i) (Int32.ofNat x) = some (Ms.sthr m 0, b) → ∃ z2 m2 k b, la_tell z (Int32.ofNat i) (Int32.ofNat x) = some (z2, k) ∧ md_tell m (Int32.ofNat i) (Int32.ofNat x) = some (m2, b) ∧ m2.thr = k ∧ (k = 0 → z2.aot 0 = b.toInt64) ∧ St z2.h m2 lm t ∧ Pot lm z2.h m2 = Pot lm z.h m := by
        intro b e1 e2
        refine ⟨Lo.wot z (vp_updL z.aot ((0 : Int32).toNatClampNeg) b.toInt64), Ms.sthr m 0, 0, b, ?_, e2, rfl, fun _ => rfl, ⟨g, o, q, a, c, R, A, h1, h2⟩, rfl⟩
        unfold la_tell
        rw [e1, PH2.2.1, inb01, gdT]
      have ok := A.rg i hi
      have w := c.rg i hi
      have vr := R.rg i hi
      obtain ⟨X, hX⟩ : ∃ X, X = wh_tell z.h (Int32.ofNat i) (Int32.ofNat x) := ⟨_, rfl⟩
      have hc0 := hX.symm
      unfold wh_tell at hX
      rw [nreg_y hi, PB.2.2.2.1, within_y hp, PB.2.2.2.1, c.kindAt (AI.in16 c hi) w ok, PB.2.1, c.handleAt (AI.in16 c hi) w ok, PB.2.1, c.placeAt (AI.in16 c hi) w ok, PB.2.1] at hX
      have Z := R.z
      have zk := Z.K
      have hK := R.k
      have hm0 : md_tell m (Int32.ofNat i) (Int32.ofNat x) = md_tell_j22 (Int32.ofNat i) (Int32.ofNat x) 0 m := by
        unfold md_tell
        rw [mreg_y hi, PB.2.1, if_neg ne10, outs_y hp, PB.2.1, if_pos rfl]
      unfold md_tell_j22 at hm0
      rw [if_pos l00, Z.tg, q_inb hi (by omega), gdT, q_nat (show i < 2147483648 by omega), vr.1] at hm0
      rcases kW_c A ok with k0 | k0 | ⟨n, pl, e, on, k0, hpl, _, _⟩
      · -- a number
        have ew : ∃ y, a.rg i = .inl y := by
          cases hw : a.rg i with
          | inl y => exact ⟨y, rfl⟩
          | inr y =>
            rw [hw] at k0 ok
            rcases ok with ⟨k1, _⟩ | ⟨k1, _⟩
            · have : kW a (.inr y) = 1 := if_pos k1
              omega
            · have e2 : kW a (.inr y) = a.kd y.1 := if_neg (by have := k1.1; omega)
              have := A.kd k1
              omega
        obtain ⟨y, ey⟩ := ew
        have tg0 : tgW (a.rg i) = 0 := by rw [ey]; rfl
        rw [k0] at hX
        rw [tg0] at hm0
        by_cases hx0 : x = 0
        · subst hx0
          refine key 0 (hc0.trans (hX.trans ?_)) (hm0.trans ?_)
          · rw [if_pos (by decide)]
            rfl
          · rw [if_pos (by decide), if_pos rfl]
        · have hx0' : ¬ (Int32.ofNat x = 0) := q_ne0 (by omega) hx0
          refine key 0 (hc0.trans (hX.trans ?_)) (hm0.trans ?_)
          · rw [if_neg hx0', if_pos (by decide)]
          · rw [if_neg hx0', if_neg (by decide)]
      · -- nil
        have tg1 : tgW (a.rg i) = -1 := by
          obtain ⟨n, e, tx⟩ := kW_tx A ok (Or.inr k0)
          rw [e] at k0 ⊢
          have n0 : n = 0 := by
            rcases tx with t0 | ⟨t0, t3⟩
            · exact t0
            · have : kW a (.inr (n, 0)) = a.kd n := if_neg (by show ¬ (n = 0); have := t0.1; omega)
              omega
          rw [n0]
          rfl
        rw [k0] at hX
        rw [tg1] at hm0
        by_cases hx0 : x = 0
        · subst hx0
          refine key 1 (hc0.trans (hX.trans ?_)) (hm0.trans ?_)
          · rw [if_pos (by decide)]
            rfl
          · rw [if_pos (by decide), if_neg (by decide), if_pos rfl]
        · have hx0' : ¬ (Int32.ofNat x = 0) := q_ne0 (by omega) hx0
          refine key 0 (hc0.trans (hX.trans ?_)) (hm0.trans ?_)
          · rw [if_neg hx0', if_neg (by decide), if_pos (by decide)]
          · rw [if_neg hx0', if_neg (by decide)]
      · -- an object
        have n0 : n ≠ 0 := by have := on.1; omega
        have hn := on.2.1
        have md := A.md
        have tn := A.tn
        have ob := c.ob n on
        have om := R.ob n on
        have v : hv g (o.ho n) := Or.inr ob.m
        have kd := A.kd on
        have hh : hW o (a.rg i) = o.ho n := by rw [e]; rfl
        have pp : pW (a.rg i) = pl := by rw [e]; rfl
        have tgn : tgW (a.rg i) = Int32.ofNat n := by rw [e]; exact tgW_o n0
        have vl2 : m.avl i = Int64.ofNat pl := by rw [vr.2, e]; rfl
        have nm1 : ¬ (Int32.ofNat n = -1) := Int32.neg1_ne (by omega)
        have np : (0 : Int32) < Int32.ofNat n := (q_lt (a := 0) (by omega) (by omega)).mpr (by omega)
        rw [k0, hh, pp, c.i.serial v, PB.2.1, ob.nu] at hX
        rw [tgn, Z.so, q_inb (show n < q.K by omega) (by omega), gdT, gdT, gdT, q_nat (show n < 2147483648 by omega), om.so] at hm0
        have k40 : ¬ (Int32.ofNat (a.kd n) = 0) := q_ne0 (by omega) (by omega)
        have k41 : ¬ (Int32.ofNat (a.kd n) = 1) := q_nek 1 (by omega) (by omega) (by omega)
        have hx5 : x = 0 ∨ x = 1 ∨ x = 2 ∨ x = 3 ∨ x = 4 := by omega
        rcases hx5 with rfl | rfl | rfl | rfl | rfl
        · refine key (Int32.ofNat (a.kd n)) (hc0.trans (hX.trans ?_)) (hm0.trans ?_)
          · rw [if_pos (by decide)]
          · rw [if_pos (by decide), if_neg (q_ne0 (by omega) n0), if_neg nm1]
        · refine key (Int32.ofNat n) (hc0.trans (hX.trans ?_)) (hm0.trans ?_)
          · rw [if_neg (by decide), if_neg k40, if_neg k41, if_pos (by decide)]
          · rw [if_neg (by decide), if_pos np, if_pos (by decide)]
        · refine key (Int32.ofNat pl) (hc0.trans (hX.trans ?_)) (hm0.trans ?_)
          · rw [if_neg (by decide), if_neg k40, if_neg k41, if_neg (by decide), if_pos (by decide)]
          · rw [if_neg (by decide), if_pos np, if_neg (by decide), if_pos (by decide), Z.vl, q_inb hi (by omega), gdT, vl2, q_32]
        · by_cases k4 : a.kd n = 4
          · have okm := A.mp on k4
            have F := c.mf on k4
            refine key (Int32.ofNat (ens (a.sl n)).length) (hc0.trans (hX.trans ?_)) (hm0.trans ?_)
            · rw [if_neg (by decide), if_neg k40, if_neg k41, if_neg (by decide), if_neg (by decide), if_pos (by decide), if_pos (by rw [k4]; rfl)]
              unfold mp_entries
              rw [F.f2, PB.2.1, PB.2.1]
            · rw [if_neg (by decide), if_pos np, if_neg (by decide), if_neg (by decide), if_pos (by decide), if_pos (by rw [k4]; rfl)]
              rw [md_entriesOf_e (m := Ms.sthr m 0) R A on k4, PB.2.1]
          · have k44 : ¬ (Int32.ofNat (a.kd n) = 4) := q_nek 4 (by omega) (by omega) k4
            have hln : g.ln (o.ho n) = a.ln n := by
              rcases kd with k | k | k
              · exact (ob.rw k).1
              · exact (ob.tx k).1
              · exact absurd k k4
            refine key (Int32.ofNat (a.ln n)) (hc0.trans (hX.trans ?_)) (hm0.trans ?_)
            · rw [if_neg (by decide), if_neg k40, if_neg k41, if_neg (by decide), if_neg (by decide), if_pos (by decide), if_neg k44, c.i.length v, PB.2.1, hln]
            · rw [if_neg (by decide), if_pos np, if_neg (by decide), if_neg (by decide), if_pos (by decide), if_neg k44, Z.si, q_inb (show n < q.K by omega) (by omega), gdT, om.si]
        · by_cases k4 : a.kd n = 4
          · have okm := A.mp on k4
            have F := c.mf on k4
            refine key (Int32.ofNat (a.nc n)) (hc0.trans (hX.trans ?_)) (hm0.trans ?_)
            · rw [if_neg (by decide), if_neg k40, if_neg k41, if_neg (by decide), if_neg (by decide), if_neg (by decide), if_pos (by rw [k4]; rfl), capacity_e F okm, PB.2.1]
            · rw [if_neg (by decide), if_pos np, if_neg (by decide), if_neg (by decide), if_neg (by decide), if_pos (by rw [k4]; rfl), Z.ca, q_inb (show n < q.K by omega) (by omega), gdT, (om.mp k4).2.2.2.1]
          · have k44 : ¬ (Int32.ofNat (a.kd n) = 4) := q_nek 4 (by omega) (by omega) k4
            refine key 0 (hc0.trans (hX.trans ?_)) (hm0.trans ?_)
            · rw [if_neg (by decide), if_neg k40, if_neg k41, if_neg (by decide), if_neg (by decide), if_neg (by decide), if_neg k44]
            · rw [if_neg (by decide), if_pos np, if_neg (by decide), if_neg (by decide), if_neg (by decide), if_neg k44]
    · refine bad ?_ ?_
      · unfold wh_tell
        rw [nreg_y hi, PB.2.2.2.1, within_n hp, PB.2.2.1]
      · unfold md_tell
        rw [mreg_y hi, PB.2.1, if_neg ne10, outs_n hp, PB.2.1, if_neg ne10]
  · refine bad ?_ ?_
    · unfold wh_tell
      rw [nreg_n hr, PB.2.2.1]
    · unfold md_tell
      rw [mreg_n hr, PB.2.1, if_pos rfl]
