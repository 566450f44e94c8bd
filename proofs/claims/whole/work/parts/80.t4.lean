/-! setByte on both sides. -/
theorem by_c (v : Int32) : ∃ u, u < 256 ∧ v.toInt64 &&& 255 = Int64.ofNat u ∧ vp_nar .byte (v.toInt8.toInt32) = vp_nar .byte (Int32.ofNat u) := by
  refine ⟨v.toBitVec.toNat % 256, by omega, ?_, ?_⟩
  · have hv : v = Int32.ofNat v.toBitVec.toNat := by
      apply Int32.toBitVec_inj.mp
      apply BitVec.eq_of_toNat_eq
      show v.toBitVec.toNat = v.toBitVec.toNat % 2 ^ 32
      have := v.toBitVec.isLt
      omega
    have hl : v.toBitVec.toNat < 4294967296 := v.toBitVec.isLt
    have e255 : (255 : Int64) = Int64.ofNat 255 := rfl
    generalize v.toBitVec.toNat = N at hv hl
    subst hv
    by_cases h : N < 2147483648
    · rw [q_64 h, e255, l_and]
      congr 1
      exact Nat.and_two_pow_sub_one_eq_mod N 8
    · have e : (Int32.ofNat N).toInt64 = Int64.ofNat (N + 18446744069414584320) := by
        apply Int64.toInt.inj
        rw [Int32.toInt_toInt64, Int32.toInt_ofNat', Int64.toInt_ofNat']
        show Int.bmod _ 4294967296 = Int.bmod _ 18446744073709551616
        unfold Int.bmod
        dsimp only
        split <;> split <;> omega
      rw [e, e255, l_and]
      congr 1
      have := Nat.and_two_pow_sub_one_eq_mod (N + 18446744069414584320) 8
      rw [show (2 : Nat) ^ 8 - 1 = 255 from by decide, show (2 : Nat) ^ 8 = 256 from by decide] at this
      rw [this]
      omega
  · show (v.toInt8.toInt32).toInt8.toInt32 = (Int32.ofNat (v.toBitVec.toNat % 256)).toInt8.toInt32
    have e : v.toInt8 = (Int32.ofNat (v.toBitVec.toNat % 256)).toInt8 := by
      apply Int8.toBitVec_inj.mp
      apply BitVec.eq_of_toNat_eq
      rw [Int32.toBitVec_toInt8, Int32.toBitVec_toInt8, BitVec.signExtend_eq_setWidth_of_le _ (by omega), BitVec.signExtend_eq_setWidth_of_le _ (by omega), BitVec.toNat_setWidth, BitVec.toNat_setWidth]
      show v.toBitVec.toNat % 2 ^ 8 = (v.toBitVec.toNat % 256) % 2 ^ 32 % 2 ^ 8
      omega
    rw [← e]
    simp
theorem pk_cg {f g : Nat → Nat} {w : Nat} (h : ∀ j, j < 8 → f (8 * w + j) = g (8 * w + j)) : pk f w = pk g w := by
  unfold pk
  rw [show f (8 * w) = g (8 * w) from h 0 (by omega), h 1 (by omega), h 2 (by omega), h 3 (by omega), h 4 (by omega), h 5 (by omega), h 6 (by omega), h 7 (by omega)]
/-- a text's bytes change -/
theorem RC_bs {z : Hs} {g : Gh} {o : Go} {a : Ab} {n : Nat} {b : Nat → Int64} {f : Nat → Int32} {w : Nat → Nat} (c : RC z g o a) (A : AI a) (on : obj a n) (k3 : a.kd n = 3) (ff : ∀ x, f x = 0 ∨ f x = 1) (un : ∀ x, (∀ i, i < (a.ln n + 7) / 8 → x ≠ g.st (o.ho n) + 1 + i) → b x = z.abt x ∧ f x = z.arf x) (nw : ∀ i, i < (a.ln n + 7) / 8 → b (g.st (o.ho n) + 1 + i) = Int64.ofNat (pk w i)) : RC (Hs.wm z b f) g o (a.s_bs (updN a.bs n w)) := by
  have ob := c.ob n on
  have TT := ob.tx k3
  have sz : g.sz (o.ho n) = 1 + (a.ln n + 7) / 8 := by unfold Gh.sz; rw [ob.kd, k3, TT.1]; rfl
  refine RC_blk (n0 := n) c A ⟨rfl, rfl, rfl, rfl, rfl, rfl, rfl, rfl, rfl, rfl, rfl, rfl, rfl, rfl⟩ rfl on ?_ ff ?_ ?_
  · intro l hl
    exact ⟨rfl, rfl, rfl, rfl, updN_o _ _ hl, rfl, rfl, rfl, rfl, rfl, rfl⟩
  · intro x h1 _
    refine un x ?_
    intro i hi e
    exact h1 (1 + i) (by omega) (by omega) (by omega)
  · refine ⟨ob.m, ob.nu, ob.kd, ob.fr, ob.ow, fun k => ?_, fun _ => ⟨TT.1, ?_⟩, fun k => ?_⟩
    · have k : a.kd n = 2 := k
      omega
    · intro i hi
      have hi : i < (a.ln n + 7) / 8 := hi
      show b (g.st (o.ho n) + 1 + i) = Int64.ofNat (pk (updN a.bs n w n) i)
      rw [updN_s]
      exact nw i hi
    · have k : a.kd n = 4 := k
      omega
theorem AI_bs {a : Ab} {n : Nat} {w : Nat → Nat} (A : AI a) (on : obj a n) (k3 : a.kd n = 3) (h1 : ∀ i, w i < 256) (h2 : ∀ i, a.ln n ≤ i → w i = 0) : AI (a.s_bs (updN a.bs n w)) := by
  refine ⟨A.lm, A.eg, A.us, A.md, A.tn, A.rg, ?_, A.sum, A.el, A.en, A.cn⟩
  intro l ol
  have ol : obj a l := ol
  have ok := A.ob l ol
  refine ⟨ok.1, ?_⟩
  rcases ok.2 with ⟨k, ok⟩ | ⟨k, ok⟩ | ⟨k, ok⟩
  · exact Or.inl ⟨k, ok⟩
  · refine Or.inr (Or.inl ⟨k, ok.1, ?_, ?_⟩)
    · intro i
      show updN a.bs n w l i < 256
      by_cases hl : l = n
      · rw [hl, updN_s]; exact h1 i
      · rw [updN_o _ _ hl]; exact ok.2.1 i
    · intro i hi
      have hi : a.ln l ≤ i := hi
      show updN a.bs n w l i = 0
      by_cases hl : l = n
      · subst hl; rw [updN_s]; exact h2 i hi
      · rw [updN_o _ _ hl]; exact ok.2.2 i hi
  · exact Or.inr (Or.inr ⟨k, ok⟩)
theorem RM_bs {m : Ms} {q : Gm} {a : Ab} {n : Nat} {t : Nat → Int32} {w : Nat → Nat} (R : RM m q a) (on : obj a n) (k3 : a.kd n = 3) (un : ∀ x, (∀ i, i < a.ln n → x ≠ q.sr n + i) → t x = m.aby x) (nw : ∀ i, i < a.ln n → t (q.sr n + i) = vp_nar .byte (Int32.ofNat (w i))) : RM (Ms.wby m t) q (a.s_bs (updN a.bs n w)) := by
  refine ⟨R.s, R.z, R.k, R.rg, R.th, R.k0, R.fl, ?_, R.sr, R.ws, R.bs, R.e⟩
  intro l ol
  have ol : obj a l := ol
  have om := R.ob l ol
  refine ⟨om.so, om.si, om.kp, om.rw, ?_, om.mp⟩
  intro k
  have k : a.kd l = 3 := k
  obtain ⟨m1, m2, m3⟩ := om.tx k
  refine ⟨m1, m2, ?_⟩
  intro i hi
  have hi : i < a.ln l := hi
  show t (q.sr l + i) = vp_nar .byte (Int32.ofNat (updN a.bs n w l i))
  by_cases hl : l = n
  · subst hl
    rw [updN_s]
    exact nw i hi
  · rw [updN_o _ _ hl]
    have hout : ∀ j, j < a.ln n → q.sr l + i ≠ q.sr n + j := by
      intro j hj
      by_cases hlt : l < n
      · have := R.sr l n ol on hlt (k.trans k3.symm) (by omega)
        omega
      · have := R.sr n l on ol (by omega) (k3.trans k.symm) (by omega)
        omega
    rw [un _ hout]
    exact m3 i hi
theorem changeByte_e {z : Hs} {g : Gh} {o : Go} {a : Ab} {n i u : Nat} {v : Int32} (c : RC z g o a) (A : AI a) (on : obj a n) (k3 : a.kd n = 3) (hi : i < a.ln n) (hu : u < 256) (hvu : v.toInt64 &&& 255 = Int64.ofNat u) : tx_changeByte z (Int32.ofNat (o.ho n)) (Int32.ofNat i) v = some (Hs.wm z (vp_updL z.abt (g.st (o.ho n) + 1 + i / 8) (Int64.ofNat (pk (updN (a.bs n) i u) (i / 8)))) (upd z.arf (g.st (o.ho n) + 1 + i / 8) 0), ()) ∧ RC (Hs.wm z (vp_updL z.abt (g.st (o.ho n) + 1 + i / 8) (Int64.ofNat (pk (updN (a.bs n) i u) (i / 8)))) (upd z.arf (g.st (o.ho n) + 1 + i / 8) 0)) g o (a.s_bs (updN a.bs n (updN (a.bs n) i u))) := by
  have ob := c.ob n on
  have T := ob.tx k3
  have okt := A.tx on k3
  have vv : hv g (o.ho n) := Or.inr ob.m
  have ll := okt.1
  have wn := c.i.wd_ne (a := g.st (o.ho n) + 1 + i / 8) (Or.inr ⟨o.ho n, ob.m, by omega, by unfold Gh.sz; rw [ob.kd, k3, T.1, if_pos rfl]; omega⟩)
  have h8 : 8 * (i / 8) + i % 8 = i := by omega
  refine ⟨?_, ?_⟩
  · unfold tx_changeByte
    have e255 : (255 : Int64) = Int64.ofNat 255 := rfl
    have hm : 255 * 2 ^ (56 - 8 * (i % 8)) < 18446744073709551616 := by
      have : 2 ^ (56 - 8 * (i % 8)) ≤ 2 ^ 56 := Nat.pow_le_pow_right (by omega) (by omega)
      have e : (18446744073709551616 : Nat) = 256 * 2 ^ 56 := by decide
      rw [e]
      omega
    have hpk := pk_upd okt.2.1 (i / 8) (i % 8) u (by omega) hu
    rw [h8] at hpk
    rw [c.i.first vv, PB.2.1, q_sar3 (by omega), q_add, hp_bitsAt_e c.i.hb wn.1, PB.2.1, shiftOf_e, PB.2.1, PB.2.1, T.2 (i / 8) (by omega), hvu, e255, l_shl (by omega), l_shl (by omega), xor_m1 hm, l_and, l_or, hpk, hp_setNumber_e c.i.hb wn.1, PB.2.2.2.2.1]
  · refine RC_bs c A on k3 ?_ ?_ ?_
    · intro x
      unfold upd
      split
      · exact Or.inl rfl
      · exact c.i.fl x
    · intro x hx
      have : x ≠ g.st (o.ho n) + 1 + i / 8 := hx (i / 8) (by omega)
      exact ⟨if_neg this, if_neg this⟩
    · intro w hw
      by_cases hwi : w = i / 8
      · subst hwi
        exact if_pos rfl
      · have : g.st (o.ho n) + 1 + w ≠ g.st (o.ho n) + 1 + i / 8 := by omega
        refine (if_neg this).trans ((T.2 w hw).trans ?_)
        rw [pk_cg (fun j hj => updN_o _ _ (by omega))]
theorem J_setByte {z : Lo} {m : Ms} {lm t : Nat} (s i v : Int32) (S : St z.h m lm t) : ∃ z2 m2 k, la_setByte z s i v = some (z2, k) ∧ md_setByte m s i v = some (m2, ()) ∧ m2.thr = k ∧ St z2.h m2 lm t ∧ Pot lm z2.h m2 = Pot lm z.h m := by
  obtain ⟨g, o, q, a, c, R, A, h1, h2⟩ := S
  have l00 : (0 : Int32) ≤ 0 := by decide
  have l10 : ¬ ((1 : Int32) ≤ 0) := by decide
  have n20 : ¬ ((2 : Int32) = 0) := by decide
  have n30 : ¬ ((3 : Int32) = 0) := by decide
  have bad : ∀ (k : Int32) (M : Ms), (k = 1 ∧ wh_setByte z.h s i v = some (z.h, .inl "java/lang/IllegalArgumentException") ∨ k = 2 ∧ wh_setByte z.h s i v = some (z.h, .inl "java/lang/UnsupportedOperationException") ∨ k = 3 ∧ wh_setByte z.h s i v = some (z.h, .inl "java/lang/IndexOutOfBoundsException")) → md_setByte m s i v = some (M, ()) → M.thr = k → RM M q a → PM M = PM m → ∃ z2 m2 k, la_setByte z s i v = some (z2, k) ∧ md_setByte m s i v = some (m2, ()) ∧ m2.thr = k ∧ St z2.h m2 lm t ∧ Pot lm z2.h m2 = Pot lm z.h m := by
    intro k M hk hm ht RM' hp
    refine ⟨Lo.sh z z.h, M, k, ?_, hm, ht, ⟨g, o, q, a, c, RM', A, h1, h2⟩, ?_⟩
    · unfold la_setByte
      rcases hk with ⟨rfl, hk⟩ | ⟨rfl, hk⟩ | ⟨rfl, hk⟩
      · rw [hk, PH2.2.2.1, if_pos rfl]
      · rw [hk, PH2.2.2.1, if_neg (by decide), if_pos rfl]
      · rw [hk, PH2.2.2.1, if_neg (by decide), if_neg (by decide), if_pos rfl]
    · unfold Pot
      rw [hp]
      rfl
  rcases reg_c s with ⟨j, hj, rfl⟩ | hs
  · have ok := A.rg j hj
    obtain ⟨X, hX⟩ : ∃ X, X = wh_setByte z.h (Int32.ofNat j) i v := ⟨_, rfl⟩
    have hc0 := hX.symm
    unfold wh_setByte at hX
    rw [nreg_y hj, PB.2.2.2.1, textIn_e c A hj] at hX
    have hm0 : md_setByte m (Int32.ofNat j) i v = md_setByte_j13 (Int32.ofNat j) i v 0 m := by
      unfold md_setByte
      rw [mreg_y hj, PB.2.1, if_neg ne10]
    unfold md_setByte_j13 at hm0
    rw [if_pos l00, md_isText_e (m := Ms.sthr m 0) R A hj, PB.2.1] at hm0
    by_cases hk : kW a (a.rg j) = 3 ∨ kW a (a.rg j) = 1
    · obtain ⟨n, e, tx⟩ := kW_tx A ok hk
      have tle := tl_le A tx
      have hh : hW o (a.rg j) = o.ho n := by rw [e]; rfl
      have v1 : m.atg j = tgW (.inr (n, 0)) := by rw [(R.rg j hj).1, e]
      obtain ⟨vv, _, _⟩ := c.txh tx
      rw [if_pos hk, PB.2.2.2.1, hh, c.i.isFrozen vv, PB.2.1, needByte_e c A tx] at hX
      rw [if_pos hk, if_neg ne10] at hm0
      -- behind the frozen check
      have j60 : md_setByte_j60 (Int32.ofNat j) i v (Ms.sthr m 0) = if 0 ≤ i ∧ i < Int32.ofNat (tl a n) then md_setByte_j85 (Int32.ofNat j) i v 0 (Ms.sthr m 0) else some (Ms.sthr (Ms.sthr m 0) 3, ()) := by
        unfold md_setByte_j60
        show gd (inb (Int32.ofNat j) m.ntg) (b0 (md_bytesOf (Ms.sthr m 0) (m.atg (Int32.ofNat j).toNatClampNeg)) _) = _
        rw [R.z.tg, q_inb hj (by omega), gdT, q_nat (by omega), v1, md_bytesOf_e (m := Ms.sthr m 0) R A tx, PB.2.1]
        by_cases hb : 0 ≤ i ∧ i < Int32.ofNat (tl a n)
        · rw [outs_y ((rng_l tle).mpr hb), PB.2.1, if_pos rfl, if_pos hb]
        · rw [outs_n (fun d => hb ((rng_l tle).mp d)), PB.2.1, if_neg ne10, if_neg hb]
          unfold md_setByte_j85
          rw [if_neg n30]
      have zk := R.z.K
      have hK := R.k
      have hm1 : md_setByte m (Int32.ofNat j) i v = if n ≠ 0 ∧ a.fz n = 1 then some (Ms.sthr (Ms.sthr m 0) 2, ()) else md_setByte_j60 (Int32.ofNat j) i v (Ms.sthr m 0) := by
        rw [hm0]
        show gd (inb (Int32.ofNat j) m.ntg) (if m.atg (Int32.ofNat j).toNatClampNeg ≤ 0 then _ else gd (inb (Int32.ofNat j) m.ntg) (gd (inb (m.atg (Int32.ofNat j).toNatClampNeg) m.nkp) (if m.akp (m.atg (Int32.ofNat j).toNatClampNeg).toNatClampNeg = 0 then _ else _))) = _
        rw [R.z.tg, q_inb hj (by omega), gdT, gdT, q_nat (show j < 2147483648 by omega), v1, tgW_t]
        rcases tx with rfl | ⟨on, k3⟩
        · rw [if_pos rfl, if_pos (by decide), if_neg (fun d => d.1 rfl)]
        · have n0 : n ≠ 0 := by have := on.1; omega
          have hn := on.2.1
          have f1 := (A.ob n on).1
          rw [if_neg n0, if_neg (q_nle0 (by omega) n0), R.z.kp, q_inb (show n < q.K by omega) (by omega), gdT, q_nat (by omega), (R.ob n on).kp]
          by_cases hf : a.fz n = 1
          · rw [hf, if_neg (show ¬ (Int32.ofNat 1 = 0) from ne10), if_pos ⟨n0, rfl⟩]
            unfold md_setByte_j56 md_setByte_j85
            rw [if_neg n20]
          · have hf0 : a.fz n = 0 := by omega
            rw [hf0, if_pos (show Int32.ofNat 0 = 0 from rfl), if_neg (fun d => absurd d.2 (by omega))]
      have frz : g.fr (o.ho n) = if n = 0 then 0 else a.fz n := by
        rcases tx with rfl | ⟨on, k3⟩
        · rw [c.h0, if_pos rfl]; exact c.i.h0.2.2.2.2
        · have n0 : n ≠ 0 := by have := on.1; omega
          rw [if_neg n0]; exact (c.ob n on).fr
      by_cases hfz : n ≠ 0 ∧ a.fz n = 1
      · rw [if_pos hfz] at hm1
        rw [frz, if_neg hfz.1, hfz.2, if_neg (show ¬ (Int32.ofNat 1 = 0) from ne10)] at hX
        exact bad 2 _ (Or.inr (Or.inl ⟨rfl, hc0.trans hX⟩)) hm1 rfl R rfl
      · rw [if_neg hfz, j60] at hm1
        have fr0 : g.fr (o.ho n) = 0 := by
          rw [frz]
          by_cases n0 : n = 0
          · rw [if_pos n0]
          · rw [if_neg n0]
            have f1 : a.fz n ≤ 1 := by
              rcases tx with t | ⟨on, k3⟩
              · exact absurd t n0
              · exact (A.ob n on).1
            have : a.fz n ≠ 1 := fun d => hfz ⟨n0, d⟩
            omega
        rw [fr0, if_pos (show Int32.ofNat 0 = 0 from rfl)] at hX
        by_cases hb : 0 ≤ i ∧ i < Int32.ofNat (tl a n)
        · rw [if_pos hb] at hm1
          rw [if_pos hb, PB.2.2.2.1] at hX
          obtain ⟨x, hx, rfl⟩ := ltn_c tle hb
          have hx0 : n ≠ 0 := by
            intro d
            unfold tl at hx
            rw [if_pos d] at hx
            omega
          obtain ⟨on, k3⟩ : obj a n ∧ a.kd n = 3 := tx.resolve_left hx0
          have hxl : x < a.ln n := by unfold tl at hx; rw [if_neg hx0] at hx; exact hx
          obtain ⟨u, hu, u1, u2⟩ := by_c v
          obtain ⟨f1, C2⟩ := changeByte_e c A on k3 hxl hu u1
          rw [f1, PB.2.2.2.2.1] at hX
          have om := (R.ob n on).tx k3
          have om1 := om.2.1
          have zb := R.z.by
          have okt := A.tx on k3
          have hn := on.2.1
          have R2 := RM_bs (m := Ms.sthr (Ms.sthr m 0) 0) (t := upd m.aby (q.sr n + x) (vp_nar .byte (v.toInt8.toInt32))) (w := updN (a.bs n) x u) R on k3 (by
              intro y hy
              exact if_neg (hy x hxl)) (by
              intro y hy
              by_cases hyx : y = x
              · subst hyx
                rw [updN_s]
                exact (if_pos rfl).trans u2
              · rw [updN_o _ _ hyx]
                exact (if_neg (by omega)).trans (om.2.2 y hy))
          refine ⟨Lo.sh z (Hs.wm z.h (vp_updL z.h.abt (g.st (o.ho n) + 1 + x / 8) (Int64.ofNat (pk (updN (a.bs n) x u) (x / 8)))) (upd z.h.arf (g.st (o.ho n) + 1 + x / 8) 0)), Ms.wby (Ms.sthr (Ms.sthr m 0) 0) (upd m.aby (q.sr n + x) (vp_nar .byte (v.toInt8.toInt32))), 0, ?_, ?_, rfl, ⟨g, o, q, _, C2, R2, AI_bs A on k3 ?_ ?_, h1, h2⟩, rfl⟩
          · unfold la_setByte
            rw [hc0, hX, PH2.2.2.2.1]
          · rw [hm1]
            unfold md_setByte_j85
            rw [if_pos rfl]
            show gd (inb (Int32.ofNat j) m.ntg) (gd (inb (m.atg (Int32.ofNat j).toNatClampNeg) m.nsr) (gd (inb (m.asr (m.atg (Int32.ofNat j).toNatClampNeg).toNatClampNeg + Int32.ofNat x) m.nby) (some (Ms.wby (Ms.sthr (Ms.sthr m 0) 0) (upd m.aby (m.asr (m.atg (Int32.ofNat j).toNatClampNeg).toNatClampNeg + Int32.ofNat x).toNatClampNeg (vp_nar .byte (v.toInt8.toInt32))), ())))) = _
            rw [R.z.tg, q_inb hj (by omega), gdT, q_nat (show j < 2147483648 by omega), v1, tgW_o hx0, R.z.sr, q_inb (show n < q.K by omega) (by omega), gdT, q_nat (show n < 2147483648 by omega), om.1, q_add, q_inb (show q.sr n + x < m.nby by omega) (by omega), gdT, q_nat (by omega)]
          · intro y
            by_cases hyx : y = x
            · rw [hyx, updN_s]; exact hu
            · rw [updN_o _ _ hyx]; exact okt.2.1 y
          · intro y hy
            rw [updN_o _ _ (by omega)]
            exact okt.2.2 y hy
        · rw [if_neg hb] at hm1
          rw [if_neg hb, PB.2.2.1] at hX
          exact bad 3 _ (Or.inr (Or.inr ⟨rfl, hc0.trans hX⟩)) hm1 rfl R rfl
    · rw [if_neg hk, PB.2.2.1] at hX
      rw [if_neg hk, if_pos rfl] at hm0
      refine bad 2 (Ms.sthr (Ms.sthr m 0) 2) (Or.inr (Or.inl ⟨rfl, hc0.trans hX⟩)) ?_ rfl R rfl
      rw [hm0]
      unfold md_setByte_j56 md_setByte_j85
      rw [if_neg n20]
  · refine bad 1 (Ms.sthr m 1) (Or.inl ⟨rfl, ?_⟩) ?_ rfl R rfl
    · unfold wh_setByte
      rw [nreg_n hs, PB.2.2.1]
    · unfold md_setByte md_setByte_j13
      rw [mreg_n hs, PB.2.1, if_pos rfl, if_neg l10]
