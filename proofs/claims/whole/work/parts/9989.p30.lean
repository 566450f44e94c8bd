/-! put on both sides. -/
theorem renewN {m : Ms} {q : Gm} {a : Ab} {n : Nat} (R : RM m q a) (A : AI a) (on : obj a n) (k4 : a.kd n = 4) (hr : (a.sl n).length < a.nc n) : md_renews m (Int32.ofNat n) = some (m, 1) := by
  have okm := A.mp on k4
  have ncl := nc_le okm
  have Z := R.z
  have zk := Z.K
  have hK := R.k
  have hn := on.2.1
  have M := (R.ob n on).mp k4
  unfold md_renews
  rw [Z.fi, Z.ca, q_inb (show n < q.K by omega) (by omega), gdT, gdT, q_nat (show n < 2147483648 by omega), M.2.2.2.1, M.2.2.2.2.1, if_neg (fun d => absurd ((q_le (by omega) (by omega)).mp d) (by omega))]
theorem nextCapacity_e {z : Hs} {g : Gh} {o : Go} {a : Ab} {n : Nat} (F : MF z g o a n) (m : okM a n) : mp_nextCapacity z (Int32.ofNat (o.ho n)) = some (Int32.ofNat (ncap a n)) := by
  have ncl := nc_le m
  have hsl := m.sl
  have hcnt : (ens (a.sl n)).length ≤ (a.sl n).length := by unfold ens; exact List.length_filterMap_le _ _
  have e4 : (4 : Int32) * Int32.ofNat (ens (a.sl n)).length = Int32.ofNat (4 * (ens (a.sl n)).length) := q_mul 4 _
  have e3 : (3 : Int32) * Int32.ofNat (a.nc n) = Int32.ofNat (3 * a.nc n) := q_mul 3 _
  have e2 : (2 : Int32) * Int32.ofNat (a.nc n) = Int32.ofNat (2 * a.nc n) := q_mul 2 _
  unfold mp_nextCapacity mp_entries
  rw [capacity_e F m, PB.2.1, F.f2, PB.2.1, PB.2.1, e4, e3, e2]
  unfold ncap
  by_cases h : 4 * (ens (a.sl n)).length < 3 * a.nc n
  · rw [if_pos ((q_lt (by omega) (by omega)).mpr h), if_pos h]
  · rw [if_neg (fun d => h ((q_lt (by omega) (by omega)).mp d)), if_neg h]
theorem claimN {z : Hs} {g : Gh} {o : Go} {a : Ab} {x T : Nat} (c : RC z g o a) (A : AI a) (hT : T = 1 + x) (hTl : T ≤ 300000) (room : ¬ ((roomA a T).us + T ≤ a.lm)) : ∃ z0 g0, hp_claim z 5 (Int32.ofNat x) = some (0, z0, .inl "java/lang/IllegalStateException") ∧ RC z0 g0 o (roomA a T) ∧ HP z0 g0 = HP z g := by
  obtain ⟨z0, g0, e1, c0, p1⟩ := RC_room (n := T) c A hTl
  refine ⟨z0, g0, ?_, c0, p1⟩
  unfold hp_claim
  rw [sizeOf5, PB.2.1, ← hT, e1, if_neg room, PB.2.2.2.2.2.1]
theorem la_put_ok {z : Lo} {z2 : Hs} {c : Nat} {r u x : Int32} (h : wh_put z.h r u = some (c, z2, .inr x)) : la_put z r u = some (c + 0, Lo.wot (Lo.sh z z2) (vp_updL z.aot ((0 : Int32).toNatClampNeg) x.toInt64), 0) := by
  unfold la_put
  rw [h, PH2.2.2.2.2.2, inb01, gdT]
  rfl
theorem wmx_ok {a : Ab} {n s p : Nat} {e : Nat × (Nat → Wrd)} (A : AI a) (on : obj a n) (k4 : a.kd n = 4) (os : obj a s) (k2 : a.kd s = 2) (hl : p + (a.nk n + a.nv n) ≤ a.ln s) (em : e ∈ ens (a.sl n)) :
    (∀ i, i < a.nk n + a.nv n → okW a (wmx e.2 (a.wo s) p (a.nk n) (a.nk n + a.nv n) i)) ∧ (∀ i, a.nk n + a.nv n ≤ i → wmx e.2 (a.wo s) p (a.nk n) (a.nk n + a.nv n) i = .inl 0) ∧ (∀ i, i < a.nk n → (a.nt n).testBit i = true → isTx a (wmx e.2 (a.wo s) p (a.nk n) (a.nk n + a.nv n) i)) := by
  have okm := A.mp on k4
  have okr := A.rw os k2
  refine ⟨?_, ?_, ?_⟩
  · intro i hi
    unfold wmx
    split
    · exact okr.2 _ (by omega)
    · exact okm.wd e em i hi
  · intro i hi
    unfold wmx
    rw [if_neg (by omega)]
    exact okm.mk e em i hi
  · intro i hi ht
    unfold wmx
    rw [if_neg (by omega)]
    exact okm.tx e em i hi ht
theorem J_put {z : Lo} {m : Ms} {lm t : Nat} (r u : Int32) (S : St z.h m lm t) (ht : t < 1000) : ∃ c d z2 m2 k b, la_put z r u = some (c, z2, k) ∧ md_put m r u = some (d, m2, b) ∧ m2.thr = k ∧ (k = 0 → z2.aot 0 = b.toInt64) ∧ St z2.h m2 lm (t + 1) ∧ c + d + Pot lm z.h m ≤ Pot lm z2.h m2 := by
  obtain ⟨g, o, q, a, c, R, A, h1, h2⟩ := S
  have l00 : (0 : Int32) ≤ 0 := by decide
  rcases mwk_c c R A r u with ⟨k, e, hk, hw, hm⟩ | ⟨i, j, n, s, p, W, hw, hw2, hm, tk, hy⟩
  · have k0 : ¬ (k ≤ 0) := by
      rcases hk with ⟨rfl, _⟩ | ⟨rfl, _⟩ | ⟨rfl, _⟩ <;> decide
    have hc : wh_put z.h r u = some (0, z.h, .inl e) := by
      unfold wh_put
      rcases hw with hw | ⟨hw, hw2⟩
      · rw [hw, PB.2.2.1]
      · rw [hw, PB.2.2.2.1, hw2, PB.2.2.1]
    refine ⟨0, 0, Lo.sh z z.h, Ms.sthr m k, k, 0, ?_, ?_, rfl, fun h => absurd (h ▸ l00) k0, ⟨g, o, q, a, c, R, A, h1, by omega⟩, by show 0 + 0 + Pot lm z.h m ≤ Pot lm z.h m; omega⟩
    · unfold la_put
      rw [hc, PH2.2.2.2.2.1]
      rcases hk with ⟨rfl, rfl⟩ | ⟨rfl, rfl⟩ | ⟨rfl, rfl⟩
      · rw [if_pos rfl]
        rfl
      · rw [if_neg (by decide), if_pos rfl]
        rfl
      · rw [if_neg (by decide), if_neg (by decide), if_pos rfl]
        rfl
    · unfold md_put
      rw [hm, PB.2.1, if_neg k0]
  · obtain ⟨hi, hj, e0, e1, gi, on, k4, gj, os, k2, hp, hl⟩ := W
    subst e0 e1
    have okm := A.mp on k4
    have F := c.mf on k4
    have nk := okm.nk
    have nv := okm.nv
    have hsl := okm.sl
    have ncl := nc_le okm
    have tn := A.tn
    have no := okm.no
    have n0 : n ≠ 0 := by have := on.1; omega
    have hn := on.2.1
    have zk := R.z.K
    have hK := R.k
    have om := (R.ob n on).mp k4
    have tgn : m.atg i = Int32.ofNat n := by rw [(R.rg i hi).1, gi]; exact tgW_o n0
    have hh : hW o (a.rg i) = o.ho n := by rw [gi]; rfl
    have hhs : hW o (a.rg j) = o.ho s := by rw [gj]; rfl
    have pps : pW (a.rg j) = p := by rw [gj]; rfl
    have ob := c.ob s os
    have RR := ob.rw k2
    have szs : g.sz (o.ho s) = 1 + a.ln s := by unfold Gh.sz; rw [ob.kd, k2, RR.1]; rfl
    have tms := Til_mem c.i.til ob.m
    have eb := c.i.eb
    have hel := R.e.le
    have hnem := R.z.el
    obtain ⟨X, hX⟩ : ∃ X, X = wh_put z.h (Int32.ofNat i) (Int32.ofNat j) := ⟨_, rfl⟩
    have hc0 := hX.symm
    unfold wh_put mp_enter at hX
    rw [hw, PB.2.2.2.1, hw2, PB.2.2.2.1, c.handleAt (AI.in16 c hi) (c.rg i hi) (A.rg i hi), PB.2.1, hh, c.handleAt (AI.in16 c hj) (c.rg j hj) (A.rg j hj), PB.2.1, hhs, c.placeAt (AI.in16 c hj) (c.rg j hj) (A.rg j hj), PB.2.1, pps, c.i.first (Or.inr ob.m), PB.2.1, q_add] at hX
    obtain ⟨Y, hY⟩ : ∃ Y, Y = md_put m (Int32.ofNat i) (Int32.ofNat j) := ⟨_, rfl⟩
    have hm0 := hY.symm
    unfold md_put at hY
    rw [hm, PB.2.1, if_pos l00, R.z.tg, q_inb hi (by omega), gdT, q_nat (show i < 2147483648 by omega), tgn] at hY
    rcases slotOfKey_e c A on k4 hy tk with ⟨l, e, hll, hle, fe, f1⟩ | ⟨no1, f1⟩
    · rcases md_find_e (m := Ms.sthr m 0) R A hi hj gi on k4 gj os k2 hl tk with ⟨b, hb, b1, fb, f2⟩ | ⟨no2, f2⟩
      · have heq := FdR_u okm fe fb
        have hlc : l < a.nc n := by omega
        have slb := sla_b c A on k4 (show l ≤ a.nc n by omega)
        have hsl2 := sla_in (i := 3 + a.nk n + a.nv n - 1) c on k4 hlc (by omega)
        obtain ⟨w1, w2, w3⟩ := wmx_ok (s := s) (p := p) A on k4 os k2 hl fe.1
        have A2 := AI_put (e' := (e.1, wmx e.2 (a.wo s) p (a.nk n) (a.nk n + a.nv n))) A on k4 hle hb b1 heq.symm rfl w1 w2 w3
        have C2 := RC_put (el2 := a.el.set b (n, (e.1, wmx e.2 (a.wo s) p (a.nk n) (a.nk n + a.nv n)))) (tn2 := a.tn) c A on k4 os k2 hll hle hl
        obtain ⟨et, ev, g1, g2, g3⟩ := md_setEntry_e (m := Ms.sthr m 0) (b := b) (lo := a.nk n) (hi := a.nk n + a.nv n) R A hj (show b < m.nem by omega) gj os k2 (by omega) (by omega) hl
        have R2 := RM_put (m := Ms.sthr m 0) (l := l) R A hb b1 (by omega) g2 g3
        rw [← heq] at R2
        have e3 : Int32.ofNat (sla g o a n l) + 3 = Int32.ofNat (sla g o a n l + 3) := q_add _ 3
        have cw := hp_copyWords_e (to := sla g o a n l + 3 + a.nk n) (fr := g.st (o.ho s) + 1 + p + a.nk n) (n := a.nv n) c.i.hb (by omega) (by omega)
        have lsl : ((a.sl n).set l (some (e.1, wmx e.2 (a.wo s) p (a.nk n) (a.nk n + a.nv n))))[l]? = some (some (e.1, wmx e.2 (a.wo s) p (a.nk n) (a.nk n + a.nv n))) := List.getElem?_set_self hll
        have s1 : (mset a n ((a.sl n).set l (some (e.1, wmx e.2 (a.wo s) p (a.nk n) (a.nk n + a.nv n)))) (a.no n) (a.el.set b (n, (e.1, wmx e.2 (a.wo s) p (a.nk n) (a.nk n + a.nv n)))) a.tn).sl n = (a.sl n).set l (some (e.1, wmx e.2 (a.wo s) p (a.nk n) (a.nk n + a.nv n))) := updN_s _ _ _
        have oi := orderIn_e (n := n) (j := l) C2 on k4 hlc (by rw [s1]; exact lsl)
        have oi : mp_orderIn (Hs.wm z.h (va_cpy z.h.abt z.h.abt (g.st (o.ho s) + 1 + p + a.nk n) (sla g o a n l + 3 + a.nk n) (a.nv n)) (va_cpy z.h.arf z.h.arf (g.st (o.ho s) + 1 + p + a.nk n) (sla g o a n l + 3 + a.nk n) (a.nv n))) (Int32.ofNat (sla g o a n l)) = some (Int32.ofNat e.1) := oi
        rw [f1, PB.2.1, if_neg (Int32.neg1_ne (by omega)), keyWords_e F okm, PB.2.1, PB.2.1, valueWords_e F okm, PB.2.1, e3, q_add, q_add, q_add, cw, PB.2.2.2.2.1, oi, PB.2.1, PB.2.2.2.2.2.2.2.2.2.2] at hX
        have lt0 : ¬ (Int32.ofNat b < 0) := fun d => absurd ((q_lt (b := 0) (by omega) (by omega)).mp d) (by omega)
        rw [f2, PB.2.1, if_neg lt0, R.z.ke, R.z.va, q_inb (show n < q.K by omega) (by omega), q_nat (show n < 2147483648 by omega), om.1, om.2.1, q_add, gdT, gdT, gdT, g1, PB.2.2.2.2.1] at hY
        have hY : Y = gd (inb (Int32.ofNat b) m.neo) (some (0, Ms.wev (Ms.wet (Ms.sthr m 0) et) ev, m.aeo (Int32.ofNat b).toNatClampNeg)) := hY
        rw [R.z.eo, q_inb (show b < m.nem by omega) (by omega), gdT, q_nat (show b < 2147483648 by omega), R.e.od b hb, ← heq] at hY
        refine ⟨_, 0, _, _, 0, Int32.ofNat e.1, la_put_ok (hc0.trans hX), hm0.trans hY, rfl, fun _ => rfl, ⟨g, o, q, _, C2, R2, A2, h1, ?_⟩, ?_⟩
        · show a.tn ≤ t + 1
          omega
        · show 0 + 0 + 0 + (PH lm z.h.nst + PW lm z.h.nbt + PM m) ≤ PH lm z.h.nst + PW lm z.h.nbt + PM m
          omega
      · exact absurd fe.2.1 (no2 e fe.1)
    · rcases md_find_e (m := Ms.sthr m 0) R A hi hj gi on k4 gj os k2 hl tk with ⟨b, hb, b1, fb, f2⟩ | ⟨no2, f2⟩
      · exact absurd fb.2.1 (no1 _ fb.1)
      · rw [f1, PB.2.1, if_pos rfl, F.f4, PB.2.1, capacity_e F okm, PB.2.1, PB.2.1] at hX
        rw [f2, PB.2.1, if_pos (by decide)] at hY
        by_cases full : (a.sl n).length < a.nc n
        · obtain ⟨z2, g2, a1, C2, a2, a3⟩ := append_e c A on k4 os k2 hl tk full
          have A2 := AI_app A on k4 os k2 hl tk full (by omega)
          obtain ⟨d, m2, b1, R2, b2, b3⟩ := md_j92 (m := Ms.sthr m 0) R A hj on k4 gj os k2 hl tk
          rw [if_pos ((q_lt (by omega) (by omega)).mpr full), q_add, a1, PB.2.2.2.2.1, PB.2.2.2.2.2.2.2.2.2.2] at hX
          rw [renewN (m := Ms.sthr m 0) R A on k4 full, PB.2.2.2.2.1, if_neg ne10, b1] at hY
          refine ⟨_, d, _, m2, 0, Int32.ofNat (a.no n), la_put_ok (hc0.trans hX), hm0.trans hY, b3, fun _ => rfl, ⟨g2, o, q, _, C2, R2, A2, h1, ?_⟩, ?_⟩
          · show a.tn + 1 ≤ t + 1
            omega
          · have b2 : d + PM m = PM m2 := b2
            show 0 + 0 + d + (PH lm z.h.nst + PW lm z.h.nbt + PM m) ≤ PH lm z2.nst + PW lm z2.nbt + PM m2
            rw [a2, a3]
            omega
        · obtain ⟨cap, hcap⟩ : ∃ cap, cap = ncap a n := ⟨_, rfl⟩
          obtain ⟨T, hT⟩ : ∃ T, T = 1 + cap * (3 + a.nk n + a.nv n) := ⟨_, rfl⟩
          obtain ⟨cb1, cb2, cb3, cb4⟩ := ncap_b okm
          rw [← hcap] at cb1 cb2 cb3 cb4
          rw [← hT] at cb3
          obtain ⟨mr, mn⟩ := renewM (m := Ms.sthr m 0) R A hi gi on k4 rfl (by omega) hcap hT
          obtain ⟨rm1, rm2, rm3, rm4⟩ := roomA_md (a := a) (n := T)
          have hp0 := HPp c
          rw [if_neg (fun d => full ((q_lt (by omega) (by omega)).mp d)), nextCapacity_e F okm, PB.2.1, slotWords_e F okm, PB.2.1, q_mul, ← hcap] at hX
          by_cases room : (roomA a T).us + T ≤ a.lm
          · obtain ⟨m2, q2, r1, R2, r2, r3⟩ := mr room
            obtain ⟨c1, z1, tt, z2, g2, o2, s1, s2, C2, s3, s4⟩ := renewC c A hi gi on k4 hT cb2 cb3 (by omega) room
            have A1 := AI_room (n := T) A
            obtain ⟨on1, E1⟩ := room_ob (T := T) hi gi on
            obtain ⟨os1, E2⟩ := room_ob (T := T) hj gj os
            have kd1 := room_kd (a := a) (T := T)
            have rg1 := room_rg (a := a) (T := T)
            have lm1 := A.lm
            obtain ⟨ol2, hol2⟩ : ∃ ol2, ol2 = (roomA a T).ol + (1 + a.nc n * (3 + a.nk n + a.nv n)) := ⟨_, rfl⟩
            rw [← hol2] at C2 R2
            have nk1 : (orpA (roomA a T) T).nk n = a.nk n := E1.nk
            have nv1 : (orpA (roomA a T) T).nv n = a.nv n := E1.nv
            have A2 : AI (useA (orpA (roomA a T) T) n cap ol2) := by
              refine AI_use (AI_orph A1 (by rw [rm2]; exact room)) on1 (E1.kd.trans k4) cb1 ?_ ?_ ?_
              · rw [nk1, nv1]
                omega
              · show (ens ((roomA a T).sl n)).length ≤ cap
                rw [E1.sl]
                omega
              · rw [nk1, nv1]
                show ol2 + (1 + cap * (3 + a.nk n + a.nv n)) = (roomA a T).ol + T + (1 + (roomA a T).nc n * (3 + a.nk n + a.nv n))
                rw [E1.nc]
                omega
            obtain ⟨b, hb⟩ : ∃ b, b = useA (orpA (roomA a T) T) n cap ol2 := ⟨_, rfl⟩
            have on2 : obj b n := by rw [hb]; exact on1
            have os2 : obj b s := by rw [hb]; exact os1
            have k42 : b.kd n = 4 := by rw [hb]; exact E1.kd.trans k4
            have k22 : b.kd s = 2 := by rw [hb]; exact E2.kd.trans k2
            have bnk : b.nk n = a.nk n := by rw [hb]; exact E1.nk
            have bnv : b.nv n = a.nv n := by rw [hb]; exact E1.nv
            have bnt : b.nt n = a.nt n := by rw [hb]; exact E1.nt
            have bln : b.ln s = a.ln s := by rw [hb]; exact E2.ln
            have bwo : b.wo s = a.wo s := by rw [hb]; exact E2.wo
            have bkd : b.kd = a.kd := by rw [hb]; exact kd1
            have brg : b.rg j = .inr (s, p) := by rw [hb]; show (roomA a T).rg j = _; rw [rg1]; exact gj
            have btn : b.tn = a.tn := by rw [hb]; exact rm3
            have blm : b.lm = a.lm := by rw [hb]; exact rm2
            have bsl : b.sl n = (ens (a.sl n)).map some := by
              rw [hb]
              show updN (roomA a T).sl n ((ens ((roomA a T).sl n)).map some) n = _
              rw [updN_s, E1.sl]
            have bnc : b.nc n = cap := by rw [hb]; exact updN_s _ _ _
            rw [← hb] at A2 C2 R2
            have hl2 : p + (b.nk n + b.nv n) ≤ b.ln s := by rw [bnk, bnv, bln]; exact hl
            have tk2 : tkk b n (fun i => b.wo s (p + i)) := by
              intro i hi ht
              rw [bnk] at hi
              rw [bnt] at ht
              have := tk i hi ht
              rw [bwo]
              unfold isTx at this ⊢
              rw [bkd]
              exact this
            have hr2 : (b.sl n).length < b.nc n := by rw [bsl, bnc, List.length_map]; exact cb4
            obtain ⟨z3, g3, a1, C3, a2, a3⟩ := append_e C2 A2 on2 k42 os2 k22 hl2 tk2 hr2
            have A3 := AI_app A2 on2 k42 os2 k22 hl2 tk2 hr2 (by omega)
            obtain ⟨d, m3, b1, R3, b2, b3⟩ := md_j92 R2 A2 hj on2 k42 brg os2 k22 hl2 tk2
            have fs := C2.i.first (Or.inr (C2.ob s os2).m)
            rw [s3 s] at fs a1
            rw [s3 n] at a1
            rw [s1, PB.2.2.2.2.2.2.2.2.2.2, s2, PB.2.2.2.2.1, fs, PB.2.1, q_add, a1, PB.2.2.2.2.1, PB.2.2.2.2.2.2.2.1, PB.2.2.2.2.2.2.2.2.2.2] at hX
            rw [r1, PB.2.2.2.2.1, if_neg ne10, b1] at hY
            refine ⟨_, d, _, m3, 0, Int32.ofNat (b.no n), la_put_ok (hc0.trans hX), hm0.trans hY, b3, fun _ => rfl, ⟨g3, o2, q2, _, C3, R3, A3, blm.trans h1, ?_⟩, ?_⟩
            · show b.tn + 1 ≤ t + 1
              omega
            · have r3 : PM m2 = PM m := r3
              have hp2 := HPp C2
              rw [blm] at hp2
              rw [hp0, hp2] at s4
              show c1 + 0 + 0 + 0 + d + (PH lm z.h.nst + PW lm z.h.nbt + PM m) ≤ PH lm z3.nst + PW lm z3.nbt + PM m3
              rw [a2, a3, ← h1]
              omega
          · obtain ⟨m2, q2, r1, R2, r3⟩ := mn room
            obtain ⟨z1, g1, s1, C1, s4⟩ := claimN c A hT cb3 room
            have A1 := AI_room (n := T) A
            rw [s1, PB.2.2.2.2.2.2.2.2.2.1, PB.2.2.2.2.2.2.2.2.2.1] at hX
            rw [r1, PB.2.2.2.2.1, if_pos rfl] at hY
            unfold md_put_j92 at hY
            rw [if_pos rfl] at hY
            refine ⟨0, 0, Lo.sh z z1, Ms.sthr m2 4, 4, 0, ?_, hm0.trans hY, rfl, fun h => absurd h (by decide), ⟨g1, o, q2, _, C1, R2, A1, rm2.trans h1, by rw [rm3]; omega⟩, ?_⟩
            · unfold la_put
              rw [hc0, hX, PH2.2.2.2.2.1, if_neg (by decide), if_neg (by decide), if_neg (by decide), if_pos rfl]
              rfl
            · have r3 : PM m2 = PM m := r3
              have hp2 := HPp C1
              rw [rm2] at hp2
              rw [hp0, hp2] at s4
              show 0 + 0 + (PH lm z.h.nst + PW lm z.h.nbt + PM m) ≤ PH lm z1.nst + PW lm z1.nbt + PM m2
              rw [← h1]
              omega
