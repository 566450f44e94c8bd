/-! After a collection; room. -/
theorem okW_col {a : Ab} {w : Wrd} (ok : okW a w) (h : ∀ p, w = .inr p → p.1 ≠ 0 → reaA a p.1) : okW (collA a) w := by
  cases w with
  | inl v => exact trivial
  | inr p =>
    rcases ok with ⟨k1, k2⟩ | ⟨k1, k2, k3⟩
    · exact Or.inl ⟨k1, k2⟩
    · refine Or.inr ⟨⟨k1.1, k1.2.1, ?_⟩, k2, k3⟩
      exact thR_iff.mpr ⟨k1, h p rfl (by have := k1.1; omega)⟩
theorem AI_col {a : Ab} (A : AI a) : AI (collA a) := by
  obtain ⟨cu1, cu2, cu3⟩ := coll_us A
  have us := A.us
  have fwd : ∀ n, obj (collA a) n → obj a n ∧ reaA a n := fun n h => thR_iff.mp h.2.2
  refine ⟨A.lm, A.eg, show (collA a).us ≤ a.lm by omega, A.md, A.tn, ?_, ?_, rfl, ?_, ?_, ?_⟩
  · intro i hi
    exact okW_col (A.rg i hi) (fun p hp p0 P h1 _ => h1 p.1 ⟨p0, i, hi, p.2, hp⟩)
  · intro n hn
    obtain ⟨on, rn⟩ := fwd n hn
    obtain ⟨f1, ok⟩ := A.ob n on
    refine ⟨f1, ?_⟩
    rcases ok with ⟨kd, ok⟩ | ⟨kd, ok⟩ | ⟨kd, ok⟩
    · exact Or.inl ⟨kd, ok.1, fun i hi => okW_col (ok.2 i hi) (fun p hp p0 P h1 h2 => h2 n p.1 (rn P h1 h2) ⟨p0, Or.inl ⟨kd, i, hi, p.2, hp⟩⟩)⟩
    · exact Or.inr (Or.inl ⟨kd, ok⟩)
    · refine Or.inr (Or.inr ⟨kd, ok.ln, ok.nk, ok.nv, ok.nt, ok.nc, ok.tb, ok.sl, ok.no, ok.srt, ok.lt, ?_, ok.mk, ok.tx⟩)
      intro e he i hi
      exact okW_col (ok.wd e he i hi) (fun p hp p0 P h1 h2 => h2 n p.1 (rn P h1 h2) ⟨p0, Or.inr ⟨kd, e, he, i, hi, p.2, hp⟩⟩)
  · intro t ht
    obtain ⟨h1, h2⟩ := List.mem_filter.mp (show t ∈ a.el.filter (fun t => thR a t.1) from ht)
    obtain ⟨on, k4⟩ := A.el t h1
    exact ⟨⟨on.1, on.2.1, h2⟩, k4⟩
  · have h1 : (a.el.filter (fun t => thR a t.1)).length ≤ a.el.length := List.length_filter_le _ _
    have := A.en
    show (a.el.filter (fun t => thR a t.1)).length ≤ a.tn
    omega
  · intro n hn k
    obtain ⟨on, rn⟩ := fwd n hn
    have := A.cn n on k
    show ens (a.sl n) = ((a.el.filter (fun t => thR a t.1)).filter (fun t => t.1 == n)).map (fun t => t.2)
    rw [this, List.filter_filter]
    congr 1
    refine List.filter_congr ?_
    intro t ht
    cases h : (t.1 == n) with
    | false => rfl
    | true =>
      have : t.1 = n := by simpa using h
      rw [this]
      have h5 : thR a n = true := hn.2.2
      rw [h5]
      rfl
noncomputable def roomA (a : Ab) (n : Nat) : Ab := if a.eg = 0 ∧ a.us + n ≤ a.lm then a else collA a
theorem AI_room {a : Ab} {n : Nat} (A : AI a) : AI (roomA a n) := by
  unfold roomA
  split
  · exact A
  · exact AI_col A
theorem roomA_md {a : Ab} {n : Nat} : (roomA a n).md = a.md ∧ (roomA a n).lm = a.lm ∧ (roomA a n).tn = a.tn ∧ (roomA a n).eg = a.eg := by
  unfold roomA
  split
  · exact ⟨rfl, rfl, rfl, rfl⟩
  · exact ⟨rfl, rfl, rfl, rfl⟩
theorem RC_room {z : Hs} {g : Gh} {o : Go} {a : Ab} {n : Nat} (c : RC z g o a) (A : AI a) (hn : n ≤ 300000) : ∃ z2 g2, hp_needRoom z (Int32.ofNat n) = some (z2, if (roomA a n).us + n ≤ a.lm then .inr () else .inl "java/lang/IllegalStateException") ∧ RC z2 g2 o (roomA a n) ∧ HP z2 g2 = HP z g := by
  have lm := A.lm
  have us := A.us
  have used : ∀ (z : Hs) (g : Gh) (a : Ab), RC z g o a → a.us ≤ 131072 → hp_used z = some (Int32.ofNat a.us) := by
    intro z g a c hu
    unfold hp_used
    rw [c.i.en, c.e]
    have : Int32.ofNat (17 + a.us) - 17 = Int32.ofNat (17 + a.us - 17) := q_sub (b := 17) (by omega)
    rw [this, show 17 + a.us - 17 = a.us from by omega]
  have j25 : ∀ (z : Hs) (g : Gh) (b : Ab), RC z g o b → b.us ≤ 131072 → b.lm = a.lm → hp_needRoom_j25 (Int32.ofNat n) z = some (z, if b.us + n ≤ a.lm then .inr () else .inl "java/lang/IllegalStateException") := by
    intro z g b c hu hl
    unfold hp_needRoom_j25
    rw [used z g b c hu, PB.2.1, q_add, c.i.lim, c.lm, hl]
    by_cases h : b.us + n ≤ a.lm
    · rw [if_pos ((q_le (by omega) (by omega)).mpr h), if_pos h]
    · rw [if_neg (fun d => h ((q_le (by omega) (by omega)).mp d)), if_neg h]
  have j20 : (¬ (a.eg = 0 ∧ a.us + n ≤ a.lm)) → ∃ z2 g2, hp_needRoom_j20 (Int32.ofNat n) z = some (z2, if (roomA a n).us + n ≤ a.lm then .inr () else .inl "java/lang/IllegalStateException") ∧ RC z2 g2 o (roomA a n) ∧ HP z2 g2 = HP z g := by
    intro h
    obtain ⟨z2, g2, e, c2, h1, h2, h3⟩ := RC_col c A
    have er : roomA a n = collA a := if_neg h
    have A2 := AI_col A
    refine ⟨z2, g2, ?_, by rw [er]; exact c2, by unfold HP; rw [h1, h2, h3]⟩
    unfold hp_needRoom_j20
    rw [e, PB.2.2.2.2.1, er]
    exact j25 z2 g2 (collA a) c2 (by have := A2.us; have h : (collA a).lm = a.lm := rfl; omega) rfl
  unfold hp_needRoom
  rw [c.al]
  by_cases h0 : a.eg = 0
  · rw [if_pos h0, used z g a c (by omega), PB.2.1, q_add, c.i.lim, c.lm]
    by_cases h : a.us + n ≤ a.lm
    · have er : roomA a n = a := if_pos ⟨h0, h⟩
      rw [if_pos ((q_le (by omega) (by omega)).mpr h), er]
      exact ⟨z, g, j25 z g a c (by omega) rfl, c, rfl⟩
    · rw [if_neg (fun d => h ((q_le (by omega) (by omega)).mp d))]
      exact j20 (fun d => h d.2)
  · rw [if_neg h0]
    exact j20 (fun d => h0 d.1)
theorem lg_le {x y : Int64} : (lg_cmp x y ≤ 0) ↔ (x ≤ y) := by
  unfold lg_cmp
  by_cases h : x > y
  · rw [if_pos h]
    constructor
    · intro c; exact absurd c (by decide)
    · intro c; exact absurd (Int64.lt_of_lt_of_le h c) Int64.lt_irrefl
  · rw [if_neg h]
    have h2 : x ≤ y := Int64.not_lt.mp h
    constructor
    · intro _; exact h2
    · intro _; split <;> decide
theorem l_le {a b : Nat} (ha : a < 9223372036854775808) (hb : b < 9223372036854775808) : (Int64.ofNat a ≤ Int64.ofNat b) ↔ a ≤ b := Int64.ofNat_le_iff_le ha hb
theorem RM_room {m : Ms} {q : Gm} {a : Ab} {n : Nat} (R : RM m q a) (A : AI a) (hn : n ≤ 300000) (ht : m.thr = 0) : ∃ m2 q2, md_hasRoom m (Int64.ofNat n) = (if (roomA a n).us + n ≤ a.lm then some (Ms.susd m2 (Int64.ofNat ((roomA a n).us + n)), 1) else some (m2, 0)) ∧ RM m2 q2 (roomA a n) ∧ m2.thr = 0 ∧ PM m2 = PM m := by
  have lm := A.lm
  have us := A.us
  have j26 : ∀ (z : Ms) (q : Gm) (b : Ab), RM z q b → b.us ≤ 131072 → b.lm = a.lm → md_hasRoom_j26 (Int64.ofNat n) z = (if b.us + n ≤ a.lm then some (Ms.susd z (Int64.ofNat (b.us + n)), 1) else some (z, 0)) := by
    intro z q b c hu hl
    unfold md_hasRoom_j26
    rw [c.s.usd, c.s.lim, hl, l_add]
    by_cases h : b.us + n ≤ a.lm
    · rw [if_pos (lg_le.mpr ((l_le (by omega) (by omega)).mpr h)), if_pos h]
    · rw [if_neg (fun d => h ((l_le (by omega) (by omega)).mp (lg_le.mp d))), if_neg h]
  have j21 : (¬ (a.eg = 0 ∧ a.us + n ≤ a.lm)) → ∃ m2 q2, md_hasRoom_j21 (Int64.ofNat n) m = (if (roomA a n).us + n ≤ a.lm then some (Ms.susd m2 (Int64.ofNat ((roomA a n).us + n)), 1) else some (m2, 0)) ∧ RM m2 q2 (roomA a n) ∧ m2.thr = 0 ∧ PM m2 = PM m := by
    intro h
    obtain ⟨m2, q2, e, c2, h1, h2⟩ := RM_col R A
    have er : roomA a n = collA a := if_neg h
    have A2 := AI_col A
    refine ⟨m2, q2, ?_, by rw [er]; exact c2, h1, h2⟩
    unfold md_hasRoom_j21
    rw [e, PB.2.2.2.2.1, er]
    exact j26 m2 q2 (collA a) c2 (by have := A2.us; have h : (collA a).lm = a.lm := rfl; omega) rfl
  unfold md_hasRoom
  rw [R.s.eag]
  by_cases h0 : a.eg = 0
  · rw [if_pos h0, R.s.usd, R.s.lim, l_add]
    by_cases h : a.us + n ≤ a.lm
    · have er : roomA a n = a := if_pos ⟨h0, h⟩
      rw [if_pos (lg_le.mpr ((l_le (by omega) (by omega)).mpr h)), er]
      exact ⟨m, q, j26 m q a R (by omega) rfl, R, ht, rfl⟩
    · rw [if_neg (fun d => h ((l_le (by omega) (by omega)).mp (lg_le.mp d)))]
      exact j21 (fun d => h d.2)
  · rw [if_neg h0]
    exact j21 (fun d => h0 d.1)
theorem sumQ_mono {f f' : Nat → Nat} {P : Nat → Bool} : ∀ {m : Nat}, (∀ n, 1 ≤ n → n ≤ m → P n = true → f n ≤ f' n) → sumQ f P m ≤ sumQ f' P m := by
  intro m
  induction m with
  | zero => intro _; exact Nat.le_refl _
  | succ m ih =>
    intro h
    unfold sumQ
    have h1 := ih (fun n h1 h2 => h n h1 (by omega))
    by_cases hp : P (m + 1) = true
    · have := h (m + 1) (by omega) (Nat.le_refl _) hp
      rw [if_pos hp, if_pos hp]; omega
    · rw [if_neg hp, if_neg hp]; omega
