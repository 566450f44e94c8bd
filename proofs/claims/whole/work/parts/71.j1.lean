/-! Both sides at once: the small calls. -/
def Pot (lm : Nat) (z : Hs) (m : Ms) : Nat := PH lm z.nst + PW lm z.nbt + PM m
def St (z : Hs) (m : Ms) (lm t : Nat) : Prop := ∃ g o q a, RC z g o a ∧ RM m q a ∧ AI a ∧ a.lm = lm ∧ a.tn ≤ t
theorem St.mono {z : Hs} {m : Ms} {lm t t2 : Nat} (h : St z m lm t) (ht : t ≤ t2) : St z m lm t2 := by
  obtain ⟨g, o, q, a, h1, h2, h3, h4, h5⟩ := h
  exact ⟨g, o, q, a, h1, h2, h3, h4, by omega⟩
theorem reg_c (r : Int32) : (∃ i, i < 16 ∧ r = Int32.ofNat i) ∨ ¬ (0 ≤ r ∧ r < 16) := by
  by_cases h : 0 ≤ r ∧ r < 16
  · refine Or.inl ⟨r.toNatClampNeg, ?_, (Int32.ofNat_toNatClampNeg r h.1).symm⟩
    have h1 := r.toNatClampNeg_lt
    have h2 := h.2
    rw [← Int32.ofNat_toNatClampNeg r h.1] at h2
    exact (q_lt (b := 16) (by omega) (by omega)).mp h2
  · exact Or.inr h
theorem nreg_y {z : Hs} {i : Nat} (h : i < 16) : wh_needRegister z (Int32.ofNat i) = some (.inr ()) := by
  unfold wh_needRegister
  rw [if_neg (q_nlt0 (by omega)), if_pos (show Int32.ofNat i < 16 from (q_lt (b := 16) (by omega) (by omega)).mpr h)]
theorem nreg_n {z : Hs} {r : Int32} (h : ¬ (0 ≤ r ∧ r < 16)) : wh_needRegister z r = some (.inl "java/lang/IllegalArgumentException") := by
  unfold wh_needRegister
  by_cases h0 : r < 0
  · rw [if_pos h0]
  · rw [if_neg h0, if_neg (fun c => h ⟨Int32.not_lt.mp h0, c⟩)]
theorem mreg_y {m : Ms} {i : Nat} (h : i < 16) : md_isRegister m (Int32.ofNat i) = some 1 := by
  unfold md_isRegister
  rw [if_neg (q_nlt0 (by omega)), if_neg (show ¬ ((16 : Int32) ≤ Int32.ofNat i) from fun c => absurd ((q_le (a := 16) (by omega) (by omega)).mp c) (by omega))]
theorem mreg_n {m : Ms} {r : Int32} (h : ¬ (0 ≤ r ∧ r < 16)) : md_isRegister m r = some 0 := by
  unfold md_isRegister md_isRegister_j14
  by_cases h0 : r < 0
  · rw [if_pos h0]
  · rw [if_neg h0, if_pos (Int32.not_lt.mp (fun c => h ⟨Int32.not_lt.mp h0, c⟩))]
theorem within_y {z : Hs} {n : Int32} {a b : Int32} (h : a ≤ n ∧ n ≤ b) : wh_needWithin z n a b = some (.inr ()) := by
  unfold wh_needWithin
  rw [if_neg (Int32.not_lt.mpr h.1), if_pos h.2]
theorem within_n {z : Hs} {n : Int32} {a b : Int32} (h : ¬ (a ≤ n ∧ n ≤ b)) : wh_needWithin z n a b = some (.inl "java/lang/IllegalArgumentException") := by
  unfold wh_needWithin
  by_cases h0 : n < a
  · rw [if_pos h0]
  · rw [if_neg h0, if_neg (fun c => h ⟨Int32.not_lt.mp h0, c⟩)]
theorem outs_y {m : Ms} {n : Int32} {a b : Int32} (h : a ≤ n ∧ n ≤ b) : md_outside m n a b = some 0 := by
  unfold md_outside
  rw [if_neg (Int32.not_lt.mpr h.1), if_pos h.2]
theorem outs_n {m : Ms} {n : Int32} {a b : Int32} (h : ¬ (a ≤ n ∧ n ≤ b)) : md_outside m n a b = some 1 := by
  unfold md_outside md_outside_j10
  by_cases h0 : n < a
  · rw [if_pos h0]
  · rw [if_neg h0, if_neg (fun c => h ⟨Int32.not_lt.mp h0, c⟩)]
theorem rng_c {n : Int32} (k : Nat) (hk : k < 2147483648) (h : 0 ≤ n ∧ n ≤ Int32.ofNat k) : ∃ i, i ≤ k ∧ n = Int32.ofNat i := by
  refine ⟨n.toNatClampNeg, ?_, (Int32.ofNat_toNatClampNeg n h.1).symm⟩
  have h1 := n.toNatClampNeg_lt
  have h2 := h.2
  rw [← Int32.ofNat_toNatClampNeg n h.1] at h2
  exact (q_le (by omega) hk).mp h2
theorem PH2 : (∀ (R Z : Type) (e : String) (h : String → Option Z) (k : R → Option Z), hbt (some (.inl e)) h k = h e) ∧
  (∀ (R Z : Type) (r : R) (h : String → Option Z) (k : R → Option Z), hbt (some (.inr r)) h k = k r) ∧
  (∀ (S R Z : Type) (s : S) (e : String) (h : S → String → Option Z) (k : S → R → Option Z), hbwt (some (s, .inl e)) h k = h s e) ∧
  (∀ (S R Z : Type) (s : S) (r : R) (h : S → String → Option Z) (k : S → R → Option Z), hbwt (some (s, .inr r)) h k = k s r) ∧
  (∀ (S R Z : Type) (c : Nat) (s : S) (e : String) (h : S → String → Option (Nat × Z)) (k : S → R → Option (Nat × Z)), hbcwt (some (c, s, .inl e)) h k = addc c (h s e)) ∧
  (∀ (S R Z : Type) (c : Nat) (s : S) (r : R) (h : S → String → Option (Nat × Z)) (k : S → R → Option (Nat × Z)), hbcwt (some (c, s, .inr r)) h k = addc c (k s r)) :=
  ⟨fun _ _ _ _ _ => rfl, fun _ _ _ _ _ => rfl, fun _ _ _ _ _ _ _ => rfl, fun _ _ _ _ _ _ _ => rfl, fun _ _ _ _ _ _ _ _ => rfl, fun _ _ _ _ _ _ _ _ => rfl⟩
theorem AI.in16 {z : Hs} {g : Gh} {o : Go} {a : Ab} (c : RC z g o a) {i : Nat} (h : i < 16) : i < z.nbt := by have := c.i.bl; omega
theorem J_number {z : Lo} {m : Ms} {lm t : Nat} (r : Int32) (v : Int64) (S : St z.h m lm t) : ∃ z2 m2 k, la_number z r v = some (z2, k) ∧ md_number m r v = some (m2, ()) ∧ m2.thr = k ∧ St z2.h m2 lm t ∧ Pot lm z2.h m2 = Pot lm z.h m := by
  obtain ⟨g, o, q, a, c, R, A, h1, h2⟩ := S
  rcases reg_c r with ⟨i, hi, rfl⟩ | hr
  · refine ⟨Lo.sh z (Hs.wm z.h (vp_updL z.h.abt i v) (upd z.h.arf i 0)), Ms.wvl (Ms.wtg (Ms.sthr m 0) (upd m.atg i 0)) (vp_updL m.avl i v), 0, ?_, ?_, rfl, ⟨g, o, q, a.s_rg (updN a.rg i (.inl v)), RC_reg (w := .inl v) c A hi, RM_reg (w := .inl v) R, AI_reg A trivial, h1, h2⟩, rfl⟩
    · unfold la_number wh_number
      rw [nreg_y hi, PB.2.2.2.1, hp_setNumber_e c.i.hb (AI.in16 c hi), PB.2.2.2.2.1, PH2.2.2.2.1]
    · unfold md_number md_number_j13
      rw [mreg_y hi, PB.2.1, if_neg ne10, if_pos rfl, md_set_e (m := Ms.sthr m 0) hi R.z.tg R.z.vl]
      rfl
  · refine ⟨Lo.sh z z.h, Ms.sthr m 1, 1, ?_, ?_, rfl, ⟨g, o, q, a, c, R, A, h1, h2⟩, rfl⟩
    · unfold la_number wh_number
      rw [nreg_n hr, PB.2.2.1, PH2.2.2.1, if_pos rfl]
    · unfold md_number md_number_j13
      rw [mreg_n hr, PB.2.1, if_pos rfl, if_neg ne10]
theorem J_nil {z : Lo} {m : Ms} {lm t : Nat} (r : Int32) (S : St z.h m lm t) : ∃ z2 m2 k, la_nil z r = some (z2, k) ∧ md_nil m r = some (m2, ()) ∧ m2.thr = k ∧ St z2.h m2 lm t ∧ Pot lm z2.h m2 = Pot lm z.h m := by
  obtain ⟨g, o, q, a, c, R, A, h1, h2⟩ := S
  rcases reg_c r with ⟨i, hi, rfl⟩ | hr
  · have e0 : o.ho 0 * 8192 + 0 = 0 := by rw [c.h0]
    have RC2 := RC_reg (w := .inr (0, 0)) c A hi
    have eb : bW o.ho (.inr (0, 0)) = Int64.ofNat (0 * 8192 + 0) := by
      show Int64.ofNat (o.ho 0 * 8192 + 0) = _
      rw [c.h0]
    rw [eb] at RC2
    refine ⟨Lo.sh z (Hs.wm z.h (vp_updL z.h.abt i (Int64.ofNat (0 * 8192 + 0))) (upd z.h.arf i 1)), Ms.wvl (Ms.wtg (Ms.sthr m 0) (upd m.atg i (-1))) (vp_updL m.avl i 0), 0, ?_, ?_, rfl, ⟨g, o, q, a.s_rg (updN a.rg i (.inr (0, 0))), RC2, RM_reg (w := .inr (0, 0)) R, AI_reg A (Or.inl ⟨rfl, rfl⟩), h1, h2⟩, rfl⟩
    · unfold la_nil wh_nil
      rw [nreg_y hi, PB.2.2.2.1]
      rw [show hp_setReference z.h (Int32.ofNat i) 0 0 = _ from hp_setReference_e (h := 0) (p := 0) c.i.hb (AI.in16 c hi) (by omega) (by omega), PB.2.2.2.2.1, PH2.2.2.2.1]
    · unfold md_nil md_nil_j13
      rw [mreg_y hi, PB.2.1, if_neg ne10, if_pos rfl, md_set_e (m := Ms.sthr m 0) hi R.z.tg R.z.vl]
      rfl
  · refine ⟨Lo.sh z z.h, Ms.sthr m 1, 1, ?_, ?_, rfl, ⟨g, o, q, a, c, R, A, h1, h2⟩, rfl⟩
    · unfold la_nil wh_nil
      rw [nreg_n hr, PB.2.2.1, PH2.2.2.1, if_pos rfl]
    · unfold md_nil md_nil_j13
      rw [mreg_n hr, PB.2.1, if_pos rfl, if_neg ne10]
theorem J_move {z : Lo} {m : Ms} {lm t : Nat} (r s : Int32) (S : St z.h m lm t) : ∃ z2 m2 k, la_move z r s = some (z2, k) ∧ md_move m r s = some (m2, ()) ∧ m2.thr = k ∧ St z2.h m2 lm t ∧ Pot lm z2.h m2 = Pot lm z.h m := by
  obtain ⟨g, o, q, a, c, R, A, h1, h2⟩ := S
  rcases reg_c r with ⟨i, hi, rfl⟩ | hr
  · rcases reg_c s with ⟨j, hj, rfl⟩ | hs
    · have w := c.rg j hj
      have RC2 := RC_reg (w := a.rg j) c A hi
      have RM2 := RM_reg (i := i) (w := a.rg j) R
      rw [← w.1, ← w.2] at RC2
      rw [← (R.rg j hj).1, ← (R.rg j hj).2] at RM2
      refine ⟨Lo.sh z (Hs.wm z.h (vp_updL z.h.abt i (z.h.abt j)) (upd z.h.arf i (z.h.arf j))), Ms.wvl (Ms.wtg (Ms.sthr m 0) (upd m.atg i (m.atg j))) (vp_updL m.avl i (m.avl j)), 0, ?_, ?_, rfl, ⟨g, o, q, a.s_rg (updN a.rg i (a.rg j)), RC2, RM2, AI_reg A (A.rg j hj), h1, h2⟩, rfl⟩
      · unfold la_move wh_move
        rw [nreg_y hi, PB.2.2.2.1, nreg_y hj, PB.2.2.2.1, hp_setWord_e c.i.hb (AI.in16 c hi) (AI.in16 c hj), PB.2.2.2.2.1, PH2.2.2.2.1]
      · unfold md_move md_move_j20
        rw [mreg_y hi, PB.2.1, if_neg ne10, mreg_y hj, PB.2.1, if_neg ne10, if_pos rfl, R.z.tg, R.z.vl, q_inb hj (by omega), q_nat (by omega), gdT, gdT, md_set_e (m := Ms.sthr m 0) hi R.z.tg R.z.vl]
        rfl
    · refine ⟨Lo.sh z z.h, Ms.sthr m 1, 1, ?_, ?_, rfl, ⟨g, o, q, a, c, R, A, h1, h2⟩, rfl⟩
      · unfold la_move wh_move
        rw [nreg_y hi, PB.2.2.2.1, nreg_n hs, PB.2.2.1, PH2.2.2.1, if_pos rfl]
      · unfold md_move md_move_j19 md_move_j20
        rw [mreg_y hi, PB.2.1, if_neg ne10, mreg_n hs, PB.2.1, if_pos rfl, if_neg ne10]
  · refine ⟨Lo.sh z z.h, Ms.sthr m 1, 1, ?_, ?_, rfl, ⟨g, o, q, a, c, R, A, h1, h2⟩, rfl⟩
    · unfold la_move wh_move
      rw [nreg_n hr, PB.2.2.1, PH2.2.2.1, if_pos rfl]
    · unfold md_move md_move_j19 md_move_j20
      rw [mreg_n hr, PB.2.1, if_pos rfl, if_neg ne10]
