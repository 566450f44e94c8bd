/-! map on both sides. -/
theorem J_map {z : Lo} {m : Ms} {lm t : Nat} (r k v x : Int32) (S : St z.h m lm t) (ht : t < 1000) : ∃ c d z2 m2 e b, la_map z r k v x = some (c, z2, e) ∧ md_map m r k v x = some (d, m2, b) ∧ m2.thr = e ∧ (e = 0 → z2.aot 0 = b.toInt64) ∧ St z2.h m2 lm (t + 1) ∧ c + d + Pot lm z.h m ≤ Pot lm z2.h m2 := by
  obtain ⟨g, o, q, a, c, R, A, h1, h2⟩ := S
  have l00 : (0 : Int32) ≤ 0 := by decide
  have l10 : ¬ ((1 : Int32) ≤ 0) := by decide
  have bad : wh_map z.h r k v x = some (0, z.h, .inl "java/lang/IllegalArgumentException") → md_map m r k v x = md_map_j39 r k v x m → ∃ c d z2 m2 e b, la_map z r k v x = some (c, z2, e) ∧ md_map m r k v x = some (d, m2, b) ∧ m2.thr = e ∧ (e = 0 → z2.aot 0 = b.toInt64) ∧ St z2.h m2 lm (t + 1) ∧ c + d + Pot lm z.h m ≤ Pot lm z2.h m2 := by
    intro e1 e2
    refine ⟨0, 0, Lo.sh z z.h, Ms.sthr m 1, 1, 0, ?_, ?_, rfl, fun h => absurd h (by decide), ⟨g, o, q, a, c, R, A, h1, by omega⟩, by show 0 + 0 + Pot lm z.h m ≤ Pot lm z.h m; omega⟩
    · unfold la_map
      rw [e1, PH2.2.2.2.2.1, if_pos rfl]
      rfl
    · rw [e2]
      unfold md_map_j39 md_map_j44
      rw [if_neg l10]
  rcases reg_c r with ⟨i, hi, rfl⟩ | hr
  · by_cases hk : 1 ≤ k ∧ k ≤ 4
    · by_cases hv : 0 ≤ v ∧ v ≤ 4
      · have hk0 : (0 : Int32) ≤ k := Int32.le_trans (by decide) hk.1
        obtain ⟨kk, hkk, rfl⟩ := rng_c 4 (by omega) ⟨hk0, hk.2⟩
        have hk1 : 1 ≤ kk := (q_le (a := 1) (by omega) (by omega)).mp hk.1
        obtain ⟨vv, hvv, rfl⟩ := rng_c 4 (by omega) hv
        have epow : (1 : Int32) <<< (Int32.ofNat kk &&& 31) = Int32.ofNat (2 ^ kk) := by
          have := q_shl (a := 1) (k := kk) (by omega)
          rw [Nat.one_mul] at this
          exact this
        have hpow : 2 ^ kk ≤ 16 := by
          have : 2 ^ kk ≤ 2 ^ 4 := Nat.pow_le_pow_right (by omega) (by omega)
          exact this
        have hp1 : 1 ≤ 2 ^ kk := Nat.one_le_two_pow
        have epow1 : Int32.ofNat (2 ^ kk) - 1 = Int32.ofNat (2 ^ kk - 1) := q_sub (b := 1) hp1
        have hxx : (0 ≤ x ∧ x ≤ Int32.ofNat (2 ^ kk - 1)) ↔ (¬ x < 0 ∧ x < Int32.ofNat (2 ^ kk)) := by
          constructor
          · intro ⟨q1, q2⟩
            obtain ⟨y, hy, rfl⟩ := rng_c (2 ^ kk - 1) (by omega) ⟨q1, q2⟩
            exact ⟨Int32.not_lt.mpr q1, (q_lt (by omega) (by omega)).mpr (by omega)⟩
          · intro ⟨q1, q2⟩
            have q1 := Int32.not_lt.mp q1
            refine ⟨q1, ?_⟩
            obtain ⟨y, hy, rfl⟩ := ltn_c (n := 2 ^ kk) (by omega) ⟨q1, q2⟩
            exact (q_le (by omega) (by omega)).mpr (by omega)
        by_cases hx : 0 ≤ x ∧ x ≤ Int32.ofNat (2 ^ kk - 1)
        · have hx2 := hxx.mp hx
          obtain ⟨tx, htx, rfl⟩ := rng_c (2 ^ kk - 1) (by omega) hx
          obtain ⟨T, hT⟩ : ∃ T, T = 6 + (8 * (3 + kk + vv) + 1) := ⟨_, rfl⟩
          obtain ⟨z1, g1, f1, C, p1⟩ := RC_room (n := T) c A (by omega)
          obtain ⟨m1, q1, f2, R1, th1, p2⟩ := RM_room (n := T) (m := Ms.sthr m 0) R A (by omega) rfl
          have A1 := AI_room (n := T) A
          obtain ⟨rm1, rm2, rm3, rm4⟩ := roomA_md (a := a) (n := T)
          have e3 : (3 : Int32) + Int32.ofNat kk = Int32.ofNat (3 + kk) := q_add 3 _
          have e8 : (8 : Int32) * Int32.ofNat (3 + kk + vv) = Int32.ofNat (8 * (3 + kk + vv)) := q_mul 8 _
          have e7 : (7 : Int32) + Int32.ofNat (8 * (3 + kk + vv)) = Int32.ofNat T := by
            rw [show (7 : Int32) + Int32.ofNat (8 * (3 + kk + vv)) = Int32.ofNat (7 + 8 * (3 + kk + vv)) from q_add 7 _, hT]
            congr 1
            omega
          have esh : (Int32.ofNat kk ||| Int32.ofNat vv <<< ((3 : Int32) &&& 31)) ||| Int32.ofNat tx <<< ((6 : Int32) &&& 31) = Int32.ofNat (kk + vv * 8 + tx * 64) := by
            rw [show Int32.ofNat vv <<< ((3 : Int32) &&& 31) = Int32.ofNat (vv * 2 ^ 3) from q_shl (k := 3) (by omega), show Int32.ofNat tx <<< ((6 : Int32) &&& 31) = Int32.ofNat (tx * 2 ^ 6) from q_shl (k := 6) (by omega), q_or, q_or]
            congr 1
            rw [Nat.or_comm kk, n_or (k := 3) (by omega), Nat.or_comm, n_or (k := 6) (by omega)]
            omega
          have hc : wh_map z.h (Int32.ofNat i) (Int32.ofNat kk) (Int32.ofNat vv) (Int32.ofNat tx) = bcwt (bwt (some (z1, if (roomA a T).us + T ≤ a.lm then .inr () else .inl "java/lang/IllegalStateException")) (fun z9 e9 => (0, (z9, .inl e9))) (fun z1 (_ : Unit) => (bcw (hp_place z1 4 5) (fun z2 r2 => (bw (mp_setField z2 r2 1 (Int32.ofNat (kk + vv * 8 + tx * 64))) (fun z3 _ => (bcw (hp_place z3 5 (Int32.ofNat (8 * (3 + kk + vv)))) (fun z4 r4 => (bw (mp_useTable z4 r2 r4 8) (fun z5 _ => some (0, (z5, (Sum.inr r2 : String ⊕ Int32))))))))))))) (fun c9 z9 e9 => (c9, (z9, .inl e9))) (fun z5 r5 => (bw (wh_hold z5 (Int32.ofNat i) r5) (fun z6 r6 => some (0, (z6, .inr r6))))) := by
            unfold wh_map mp_newMap
            rw [nreg_y hi, PB.2.2.2.1, within_y hk, PB.2.2.2.1, within_y hv, PB.2.2.2.1, epow, epow1, within_y hx, PB.2.2.2.1, e3, q_add, e8, e7, f1, esh]
          have hm : md_map m (Int32.ofNat i) (Int32.ofNat kk) (Int32.ofNat vv) (Int32.ofNat tx) = bw (if (roomA a T).us + T ≤ a.lm then some (Ms.susd m1 (Int64.ofNat ((roomA a T).us + T)), 1) else some (m1, 0)) (fun z10 r10 => (if r10 = 0 then (md_map_j89 (Int32.ofNat i) (Int32.ofNat kk) (Int32.ofNat vv) (Int32.ofNat tx) r10 2 z10) else (md_map_j89 (Int32.ofNat i) (Int32.ofNat kk) (Int32.ofNat vv) (Int32.ofNat tx) r10 0 z10))) := by
            unfold md_map md_map_j44
            have e5 : (8 : Int64) * Int64.ofNat (3 + kk + vv) = Int64.ofNat (8 * (3 + kk + vv)) := l_mul 8 _
            have e6 : (6 : Int64) + Int64.ofNat (8 * (3 + kk + vv)) = Int64.ofNat (6 + 8 * (3 + kk + vv)) := l_add 6 _
            have e9 : Int64.ofNat (6 + 8 * (3 + kk + vv)) + 1 = Int64.ofNat T := by
              rw [show Int64.ofNat (6 + 8 * (3 + kk + vv)) + 1 = Int64.ofNat (6 + 8 * (3 + kk + vv) + 1) from l_add _ 1, hT, Nat.add_assoc]
            rw [mreg_y hi, PB.2.1, if_neg ne10, outs_y hk, PB.2.1, if_pos rfl, outs_y hv, PB.2.1, if_pos rfl, if_neg hx2.1, epow, if_pos hx2.2, if_pos l00, e3, q_add, q_64 (by omega), e5, e6, e9, f2]
          have q1h := HPp c
          by_cases h : (roomA a T).us + T ≤ a.lm
          · rw [if_pos h] at hc hm
            have A2 : AI (newA (roomA a T) 4 0 kk vv tx) := AI_new A1 (by rw [rm2]; show (roomA a T).us + (6 + (8 * (3 + kk + vv) + 1)) ≤ a.lm; rw [← hT]; exact h) (by rw [rm3]; omega) (Or.inr (Or.inr ⟨rfl, rfl, hk1, hkk, hvv, by omega⟩))
            obtain ⟨c2, z6, g6, o6, e10, C6, p6⟩ := RC_newmap (k := kk) (v := vv) (tx := tx) C A1 ⟨hk1, hkk⟩ hvv (by omega) (by rw [rm2, ← hT]; exact h)
            rw [rm1] at e10
            have oN : obj (newA (roomA a T) 4 0 kk vv tx) (a.md + 1) := by
              have := newA_obj (a := roomA a T) (kd := 4) (ln := 0) (nk := kk) (nv := vv) (nt := tx)
              rw [rm1] at this
              exact this
            obtain ⟨e11, C7⟩ := RC_hold C6 A2 hi oN
            obtain ⟨d1, m2, q2, e12, R2, th2, p3⟩ := RM_map (i := i) (nk := kk) (nv := vv) (nt := tx) R1 A1 hi
            rw [← hT, rm1] at e12
            rw [rm1] at R2
            have hpC := HPp C
            have hpC6 := HPp C6
            rw [rm2] at hpC
            rw [show (newA (roomA a T) 4 0 kk vv tx).lm = a.lm from rm2] at hpC6
            refine ⟨c2 + 0 + 0, d1, Lo.wot (Lo.sh z (Hs.wm z6 (vp_updL z6.abt i (Int64.ofNat (o6.ho (a.md + 1) * 8192 + 0))) (upd z6.arf i 1))) (vp_updL z.aot ((0 : Int32).toNatClampNeg) (Int32.ofNat (a.md + 1)).toInt64), m2, 0, Int32.ofNat (a.md + 1), ?_, ?_, th2, fun _ => rfl, ⟨g6, o6, q2, _, C7, R2, AI_reg A2 ?_, rm2.trans h1, ?_⟩, ?_⟩
            · unfold la_map
              rw [hc, PB.2.2.2.2.2.2.1, e10, PB.2.2.2.2.2.2.2.2.2.2, e11, PB.2.2.2.2.1, PB.2.2.2.2.2.2.2.1, PH2.2.2.2.2.2, inb01, gdT]
              rfl
            · rw [hm, PB.2.2.2.2.1, if_neg ne10]
              exact e12
            · refine Or.inr ⟨oN, Nat.zero_le _, ?_⟩
              split
              · exact Nat.zero_le _
              · rfl
            · show (roomA a T).tn + 1 ≤ t + 1
              rw [rm3]; omega
            · have p2 : PM m1 = PM m := p2
              show c2 + 0 + 0 + d1 + (PH lm z.h.nst + PW lm z.h.nbt + PM m) ≤ PH lm z6.nst + PW lm z6.nbt + PM m2
              rw [← h1]
              rw [hpC, hpC6] at p6
              rw [q1h, hpC] at p1
              omega
          · rw [if_neg h] at hc hm
            refine ⟨0, 0, Lo.sh z z1, Ms.sthr m1 2, 2, 0, ?_, ?_, rfl, fun h => absurd h (by decide), ⟨g1, o, q1, roomA a T, C, R1, A1, rm2.trans h1, by rw [rm3]; omega⟩, ?_⟩
            · unfold la_map
              rw [hc, PB.2.2.2.2.2.1, PB.2.2.2.2.2.2.2.2.2.1, PH2.2.2.2.2.1, if_neg (by decide), if_pos rfl]
              rfl
            · rw [hm, PB.2.2.2.2.1, if_pos rfl]
              unfold md_map_j89
              rw [if_pos rfl]
            · have q2 := HPp C
              rw [rm2] at q2
              rw [q1h, q2] at p1
              have p2 : PM m1 = PM m := p2
              show 0 + 0 + (PH lm z.h.nst + PW lm z.h.nbt + PM m) ≤ PH lm z1.nst + PW lm z1.nbt + PM m1
              rw [← h1]
              omega
        · refine bad ?_ ?_
          · unfold wh_map
            rw [nreg_y hi, PB.2.2.2.1, within_y hk, PB.2.2.2.1, within_y hv, PB.2.2.2.1, epow, epow1, within_n hx, PB.2.2.1]
          · unfold md_map
            rw [mreg_y hi, PB.2.1, if_neg ne10, outs_y hk, PB.2.1, if_pos rfl, outs_y hv, PB.2.1, if_pos rfl, epow]
            by_cases q0 : x < 0
            · rw [if_pos q0]
            · rw [if_neg q0, if_neg (fun d => hx (hxx.mpr ⟨q0, d⟩))]
      · refine bad ?_ ?_
        · unfold wh_map
          rw [nreg_y hi, PB.2.2.2.1, within_y hk, PB.2.2.2.1, within_n hv, PB.2.2.1]
        · unfold md_map
          rw [mreg_y hi, PB.2.1, if_neg ne10, outs_y hk, PB.2.1, if_pos rfl, outs_n hv, PB.2.1, if_neg ne10]
    · refine bad ?_ ?_
      · unfold wh_map
        rw [nreg_y hi, PB.2.2.2.1, within_n hk, PB.2.2.1]
      · unfold md_map
        rw [mreg_y hi, PB.2.1, if_neg ne10, outs_n hk, PB.2.1, if_neg ne10]
  · refine bad ?_ ?_
    · unfold wh_map
      rw [nreg_n hr, PB.2.2.1]
    · unfold md_map
      rw [mreg_n hr, PB.2.1, if_pos rfl]
