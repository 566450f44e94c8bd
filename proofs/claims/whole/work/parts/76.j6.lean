/-! copy on both sides. -/
def cpydG {α : Type} (f : Nat → α) (fr to n i : Nat) : Nat → α := fun a => if to + i ≤ a ∧ a < to + n then f (fr + (a - to)) else f a
theorem cpydG_step {α : Type} {to fr n i : Nat} {f : Nat → α} (h : fr < to) (hi : i < n) : (fun j => if j = to + i then cpydG f fr to n (i + 1) (fr + i) else cpydG f fr to n (i + 1) j) = cpydG f fr to n i := by
  funext a
  unfold cpydG
  by_cases h1 : a = to + i
  · subst h1
    rw [if_pos rfl, if_neg (by omega), if_pos (by omega), show to + i - to = i from by omega]
  · rw [if_neg h1]
    by_cases h2 : to + (i + 1) ≤ a ∧ a < to + n
    · rw [if_pos h2, if_pos (by omega)]
    · rw [if_neg h2, if_neg (by omega)]
theorem cp_up {m : Ms} {src dst n : Nat} (h : dst ≤ src) (hn : src + n ≤ m.nwt) (hw : m.nwt ≤ 131072) (hv : m.nwv = m.nwt) (t : Nat → Int32) (v : Nat → Int64) : ∀ k i fu, i + k = n → k < fu →
    md_copy_l118 fu (Int32.ofNat n) (Int32.ofNat src) (Int32.ofNat dst) (Int32.ofNat i) (Ms.wwv (Ms.wwt m (va_cpy t t src dst i)) (va_cpy v v src dst i)) = some (Ms.wwv (Ms.wwt m (va_cpy t t src dst n)) (va_cpy v v src dst n), ()) := by
  intro k
  induction k with
  | zero =>
    intro i fu hi hfu
    obtain ⟨f, rfl⟩ : ∃ f, fu = f + 1 := ⟨fu - 1, by omega⟩
    have : i = n := by omega
    subst this
    rw [md_copy_l118, if_pos ((q_le (by omega) (by omega)).mpr (Nat.le_refl _))]
  | succ k ih =>
    intro i fu hi hfu
    obtain ⟨f, rfl⟩ : ∃ f, fu = f + 1 := ⟨fu - 1, by omega⟩
    have e1 : Int32.ofNat i + 1 = Int32.ofNat (i + 1) := q_add i 1
    rw [md_copy_l118, if_neg (fun c => absurd ((q_le (by omega) (by omega)).mp c) (by omega)), if_pos ((q_le (by omega) (by omega)).mpr h)]
    unfold md_copy_j142
    show gd (inb (Int32.ofNat src + Int32.ofNat i) m.nwt) (gd (inb (Int32.ofNat dst + Int32.ofNat i) m.nwt) (gd (inb (Int32.ofNat src + Int32.ofNat i) m.nwv) (gd (inb (Int32.ofNat dst + Int32.ofNat i) m.nwv) (md_copy_l118 f (Int32.ofNat n) (Int32.ofNat src) (Int32.ofNat dst) (Int32.ofNat i + 1) (Ms.wwv (Ms.wwt m (upd (va_cpy t t src dst i) (Int32.ofNat dst + Int32.ofNat i).toNatClampNeg (va_cpy t t src dst i (Int32.ofNat src + Int32.ofNat i).toNatClampNeg))) (vp_updL (va_cpy v v src dst i) (Int32.ofNat dst + Int32.ofNat i).toNatClampNeg (va_cpy v v src dst i (Int32.ofNat src + Int32.ofNat i).toNatClampNeg))))))) = _
    rw [q_add, q_add, hv, q_inb (show src + i < m.nwt by omega) (by omega), q_inb (show dst + i < m.nwt by omega) (by omega), q_nat (show src + i < 2147483648 by omega), q_nat (show dst + i < 2147483648 by omega), e1, gdT, gdT, gdT, gdT]
    have := ih (i + 1) f (by omega) (by omega)
    rw [← cpy_stepG h, ← cpy_stepG h] at this
    exact this
theorem cp_dn {m : Ms} {src dst n : Nat} (h : src < dst) (hn : dst + n ≤ m.nwt) (hw : m.nwt ≤ 131072) (hv : m.nwv = m.nwt) (t : Nat → Int32) (v : Nat → Int64) : ∀ k i fu, i + k = n → k < fu →
    md_copy_l118 fu (Int32.ofNat n) (Int32.ofNat src) (Int32.ofNat dst) (Int32.ofNat i) (Ms.wwv (Ms.wwt m (cpydG t src dst n k)) (cpydG v src dst n k)) = some (Ms.wwv (Ms.wwt m (va_cpy t t src dst n)) (va_cpy v v src dst n), ()) := by
  intro k
  induction k with
  | zero =>
    intro i fu hi hfu
    obtain ⟨f, rfl⟩ : ∃ f, fu = f + 1 := ⟨fu - 1, by omega⟩
    have : i = n := by omega
    subst this
    rw [md_copy_l118, if_pos ((q_le (by omega) (by omega)).mpr (Nat.le_refl _))]
    rfl
  | succ k ih =>
    intro i fu hi hfu
    obtain ⟨f, rfl⟩ : ∃ f, fu = f + 1 := ⟨fu - 1, by omega⟩
    have e1 : Int32.ofNat i + 1 = Int32.ofNat (i + 1) := q_add i 1
    have e2 : Int32.ofNat n - 1 - Int32.ofNat i = Int32.ofNat k := by
      have g1 : Int32.ofNat n - 1 = Int32.ofNat (n - 1) := q_sub (b := 1) (by omega)
      rw [g1, q_sub (by omega)]
      congr 1
      omega
    rw [md_copy_l118, if_neg (fun c => absurd ((q_le (by omega) (by omega)).mp c) (by omega)), if_neg (fun c => absurd ((q_le (by omega) (by omega)).mp c) (by omega)), e2]
    unfold md_copy_j142
    show gd (inb (Int32.ofNat src + Int32.ofNat k) m.nwt) (gd (inb (Int32.ofNat dst + Int32.ofNat k) m.nwt) (gd (inb (Int32.ofNat src + Int32.ofNat k) m.nwv) (gd (inb (Int32.ofNat dst + Int32.ofNat k) m.nwv) (md_copy_l118 f (Int32.ofNat n) (Int32.ofNat src) (Int32.ofNat dst) (Int32.ofNat i + 1) (Ms.wwv (Ms.wwt m (upd (cpydG t src dst n (k + 1)) (Int32.ofNat dst + Int32.ofNat k).toNatClampNeg (cpydG t src dst n (k + 1) (Int32.ofNat src + Int32.ofNat k).toNatClampNeg))) (vp_updL (cpydG v src dst n (k + 1)) (Int32.ofNat dst + Int32.ofNat k).toNatClampNeg (cpydG v src dst n (k + 1) (Int32.ofNat src + Int32.ofNat k).toNatClampNeg))))))) = _
    rw [q_add, q_add, hv, q_inb (show src + k < m.nwt by omega) (by omega), q_inb (show dst + k < m.nwt by omega) (by omega), q_nat (show src + k < 2147483648 by omega), q_nat (show dst + k < 2147483648 by omega), e1, gdT, gdT, gdT, gdT]
    have := ih (i + 1) f (by omega) (by omega)
    rw [← cpydG_step h (show k < n by omega), ← cpydG_step h (show k < n by omega)] at this
    exact this
theorem md_copy_e {m : Ms} {src dst n : Nat} (h1 : src + n ≤ m.nwt) (h2 : dst + n ≤ m.nwt) (hw : m.nwt ≤ 131072) (hv : m.nwv = m.nwt) : md_copy_l118 FU (Int32.ofNat n) (Int32.ofNat src) (Int32.ofNat dst) 0 m = some (Ms.wwv (Ms.wwt m (va_cpy m.awt m.awt src dst n)) (va_cpy m.awv m.awv src dst n), ()) := by
  by_cases h : dst ≤ src
  · have := cp_up h h1 hw hv m.awt m.awv n 0 FU (by omega) (by unfold FU; omega)
    rw [cpy0, cpy0] at this
    exact this
  · have := cp_dn (src := src) (dst := dst) (by omega) h2 hw hv m.awt m.awv n 0 FU (by omega) (by unfold FU; omega)
    have z0 : ∀ {α : Type} (f : Nat → α), cpydG f src dst n n = f := by
      intro α f
      funext a
      exact if_neg (by omega)
    rw [z0, z0] at this
    exact this
theorem needWords_e {z : Hs} {g : Gh} {o : Go} {a : Ab} {i n p x : Nat} (c : RC z g o a) (A : AI a) (hi : i < 16) (e : a.rg i = .inr (n, p)) (on : obj a n) (k2 : a.kd n = 2) (hp : p ≤ 4096) (hx : x ≤ 4096) : wh_needWords z (Int32.ofNat i) (Int32.ofNat x) = if p + x ≤ a.ln n then some (.inr ()) else some (.inl "java/lang/IndexOutOfBoundsException") := by
  have ok := A.rg i hi
  have ob := c.ob n on
  have v : hv g (o.ho n) := Or.inr ob.m
  have hh : hW o (a.rg i) = o.ho n := by rw [e]; rfl
  have pp : pW (a.rg i) = p := by rw [e]; rfl
  have ll := (A.rw on k2).1
  have RR := ob.rw k2
  unfold wh_needWords
  rw [c.placeAt (AI.in16 c hi) (c.rg i hi) ok, PB.2.1, c.handleAt (AI.in16 c hi) (c.rg i hi) ok, PB.2.1, hh, pp, c.i.length v, PB.2.1, RR.1, q_add]
  by_cases h : p + x ≤ a.ln n
  · rw [if_pos ((q_le (by omega) (by omega)).mpr h), if_pos h]
  · rw [if_neg (fun d => h ((q_le (by omega) (by omega)).mp d)), if_neg h]
theorem rowWord_e {z : Hs} {g : Gh} {o : Go} {a : Ab} {i n p : Nat} (c : RC z g o a) (A : AI a) (hi : i < 16) (e : a.rg i = .inr (n, p)) (on : obj a n) : wh_rowWord z (Int32.ofNat i) = some (Int32.ofNat (g.st (o.ho n) + 1 + p)) := by
  have ok := A.rg i hi
  have ob := c.ob n on
  have v : hv g (o.ho n) := Or.inr ob.m
  have hh : hW o (a.rg i) = o.ho n := by rw [e]; rfl
  have pp : pW (a.rg i) = p := by rw [e]; rfl
  unfold wh_rowWord
  rw [c.handleAt (AI.in16 c hi) (c.rg i hi) ok, PB.2.1, hh, c.i.first v, PB.2.1, c.placeAt (AI.in16 c hi) (c.rg i hi) ok, PB.2.1, pp, q_add]
theorem md_hasWords_e {m : Ms} {q : Gm} {a : Ab} {i n p x : Nat} (R : RM m q a) (A : AI a) (hi : i < 16) (e : a.rg i = .inr (n, p)) (on : obj a n) (k2 : a.kd n = 2) (hp : p ≤ 4096) (hx : x ≤ 4096) : md_hasWords m (Int32.ofNat i) (Int32.ofNat x) = some (if p + x ≤ a.ln n then 1 else 0) := by
  have v := R.rg i hi
  rw [e] at v
  have Z := R.z
  have zk := Z.K
  have hK := R.k
  have hn := on.2.1
  have n0 : n ≠ 0 := by have := on.1; omega
  have ll := (A.rw on k2).1
  have v2 : m.avl i = Int64.ofNat p := v.2
  have v1 : m.atg i = Int32.ofNat n := v.1.trans (tgW_o n0)
  unfold md_hasWords
  rw [Z.vl, Z.tg, Z.si, q_inb hi (by omega), q_nat (show i < 2147483648 by omega), v2, v1, q_inb (show n < q.K by omega) (by omega), q_nat (show n < 2147483648 by omega), (R.ob n on).si, q_64 (by omega), q_64 (by omega), l_add, gdT, gdT, gdT]
  by_cases h : p + x ≤ a.ln n
  · rw [if_pos h, if_neg (fun d => by have := (l_lt (by omega) (by omega)).mp (lg_gt.mp d); omega)]
  · rw [if_neg h, if_pos (lg_gt.mpr ((l_lt (by omega) (by omega)).mpr (by omega)))]
theorem J_copy {z : Lo} {m : Ms} {lm t : Nat} (r s n : Int32) (S : St z.h m lm t) : ∃ z2 m2 e, la_copy z r s n = some (z2, e) ∧ md_copy m r s n = some (m2, ()) ∧ m2.thr = e ∧ St z2.h m2 lm t ∧ Pot lm z2.h m2 = Pot lm z.h m := by
  obtain ⟨g, o, q, a, c, R, A, h1, h2⟩ := S
  have l00 : (0 : Int32) ≤ 0 := by decide
  have l10 : ¬ ((1 : Int32) ≤ 0) := by decide
  have l20 : ¬ ((2 : Int32) ≤ 0) := by decide
  have l30 : ¬ ((3 : Int32) ≤ 0) := by decide
  have bad : wh_copy z.h r s n = some (z.h, .inl "java/lang/IllegalArgumentException") → md_copy m r s n = some (Ms.sthr m 1, ()) → ∃ z2 m2 e, la_copy z r s n = some (z2, e) ∧ md_copy m r s n = some (m2, ()) ∧ m2.thr = e ∧ St z2.h m2 lm t ∧ Pot lm z2.h m2 = Pot lm z.h m := by
    intro x1 x2
    refine ⟨Lo.sh z z.h, Ms.sthr m 1, 1, ?_, x2, rfl, ⟨g, o, q, a, c, R, A, h1, h2⟩, rfl⟩
    unfold la_copy
    rw [x1, PH2.2.2.1, if_pos rfl]
  have bad2 : wh_copy z.h r s n = some (z.h, .inl "java/lang/UnsupportedOperationException") → md_copy m r s n = some (Ms.sthr (Ms.sthr m 0) 2, ()) → ∃ z2 m2 e, la_copy z r s n = some (z2, e) ∧ md_copy m r s n = some (m2, ()) ∧ m2.thr = e ∧ St z2.h m2 lm t ∧ Pot lm z2.h m2 = Pot lm z.h m := by
    intro x1 x2
    refine ⟨Lo.sh z z.h, Ms.sthr (Ms.sthr m 0) 2, 2, ?_, x2, rfl, ⟨g, o, q, a, c, R, A, h1, h2⟩, rfl⟩
    unfold la_copy
    rw [x1, PH2.2.2.1, if_neg (by decide), if_pos rfl]
  have bad3 : wh_copy z.h r s n = some (z.h, .inl "java/lang/IndexOutOfBoundsException") → md_copy m r s n = some (Ms.sthr (Ms.sthr m 0) 3, ()) → ∃ z2 m2 e, la_copy z r s n = some (z2, e) ∧ md_copy m r s n = some (m2, ()) ∧ m2.thr = e ∧ St z2.h m2 lm t ∧ Pot lm z2.h m2 = Pot lm z.h m := by
    intro x1 x2
    refine ⟨Lo.sh z z.h, Ms.sthr (Ms.sthr m 0) 3, 3, ?_, x2, rfl, ⟨g, o, q, a, c, R, A, h1, h2⟩, rfl⟩
    unfold la_copy
    rw [x1, PH2.2.2.1, if_neg (by decide), if_neg (by decide), if_pos rfl]
  rcases reg_c r with ⟨i, hi, rfl⟩ | hr
  · rcases reg_c s with ⟨j, hj, rfl⟩ | hs
    · by_cases hn : 0 ≤ n ∧ n ≤ 4096
      · obtain ⟨x, hx, rfl⟩ := rng_c 4096 (by omega) hn
        have hm0 : md_copy m (Int32.ofNat i) (Int32.ofNat j) (Int32.ofNat x) = md_copy_j31 (Int32.ofNat i) (Int32.ofNat j) (Int32.ofNat x) 0 m := by
          unfold md_copy
          rw [mreg_y hi, PB.2.1, if_neg ne10, mreg_y hj, PB.2.1, if_neg ne10, outs_y hn, PB.2.1, if_pos rfl]
        obtain ⟨X, hX⟩ : ∃ X, X = wh_copy z.h (Int32.ofNat i) (Int32.ofNat j) (Int32.ofNat x) := ⟨_, rfl⟩
        have hc0 := hX.symm
        unfold wh_copy at hX
        rw [nreg_y hi, PB.2.2.2.1, nreg_y hj, PB.2.2.2.1, within_y hn, PB.2.2.2.1, rowIn_e c A hi, rowIn_e c A hj] at hX
        unfold md_copy_j31 at hm0
        rw [if_pos l00] at hm0
        rw [show md_is (Ms.sthr m 0) (Int32.ofNat i) 2 = some (if kW a (a.rg i) = 2 then 1 else 0) from md_is_e (k := 2) (m := Ms.sthr m 0) R A hi (by omega), show md_is (Ms.sthr m 0) (Int32.ofNat j) 2 = some (if kW a (a.rg j) = 2 then 1 else 0) from md_is_e (k := 2) (m := Ms.sthr m 0) R A hj (by omega), PB.2.1] at hm0
        by_cases hki : kW a (a.rg i) = 2
        · rw [if_pos hki, PB.2.2.2.1] at hX
          rw [if_pos hki, if_neg ne10, PB.2.1] at hm0
          by_cases hkj : kW a (a.rg j) = 2
          · rw [if_pos hkj, PB.2.2.2.1] at hX
            rw [if_pos hkj, if_neg ne10] at hm0
            obtain ⟨ni, pi, ei, oni, k2i, hpi, hpi2, _⟩ := kW_obj A (A.rg i hi) (by omega) hki
            obtain ⟨nj, pj, ej, onj, k2j, hpj, hpj2, _⟩ := kW_obj A (A.rg j hj) (by omega) hkj
            rw [needWords_e c A hi ei oni k2i hpi hx, needWords_e c A hj ej onj k2j hpj hx] at hX
            rw [md_hasWords_e (m := Ms.sthr m 0) R A hi ei oni k2i hpi hx, PB.2.1, md_hasWords_e (m := Ms.sthr m 0) R A hj ej onj k2j hpj hx, PB.2.1] at hm0
            by_cases gi : pi + x ≤ a.ln ni
            · rw [if_pos gi, PB.2.2.2.1] at hX
              rw [if_pos gi, if_neg ne10] at hm0
              by_cases gj : pj + x ≤ a.ln nj
              · rw [if_pos gj, PB.2.2.2.1, rowWord_e c A hi ei oni, PB.2.1, rowWord_e c A hj ej onj, PB.2.1] at hX
                rw [if_pos gj, if_neg ne10] at hm0
                have Z := R.z
                have zw := Z.wl
                have obi := c.ob ni oni
                have obj' := c.ob nj onj
                have RRi := obi.rw k2i
                have RRj := obj'.rw k2j
                have oki := A.rw oni k2i
                have okj := A.rw onj k2j
                have mi := (R.ob ni oni).rw k2i
                have mj := (R.ob nj onj).rw k2j
                have szi : g.sz (o.ho ni) = 1 + a.ln ni := by unfold Gh.sz; rw [obi.kd, k2i, RRi.1]; rfl
                have szj : g.sz (o.ho nj) = 1 + a.ln nj := by unfold Gh.sz; rw [obj'.kd, k2j, RRj.1]; rfl
                have ti := Til_mem c.i.til obi.m
                have tj := Til_mem c.i.til obj'.m
                have eb := c.i.eb
                have mi1 := mi.2.1
                have mj1 := mj.2.1
                have C2 := RC_row (b := va_cpy z.h.abt z.h.abt (g.st (o.ho nj) + 1 + pj) (g.st (o.ho ni) + 1 + pi) x) (f := va_cpy z.h.arf z.h.arf (g.st (o.ho nj) + 1 + pj) (g.st (o.ho ni) + 1 + pi) x) (w := fun y => if pi ≤ y ∧ y < pi + x then a.wo nj (pj + (y - pi)) else a.wo ni y) c A oni k2i (fun y => cpyf c.i.fl _ _ _ _) (by
                  intro y hy
                  have : ¬ (g.st (o.ho ni) + 1 + pi ≤ y ∧ y < g.st (o.ho ni) + 1 + pi + x) := by
                    intro d
                    exact hy (y - (g.st (o.ho ni) + 1)) (by omega) (by omega)
                  exact ⟨if_neg this, if_neg this⟩) (by
                  intro y hy
                  show va_cpy z.h.arf z.h.arf (g.st (o.ho nj) + 1 + pj) (g.st (o.ho ni) + 1 + pi) x (g.st (o.ho ni) + 1 + y) = fW (if pi ≤ y ∧ y < pi + x then a.wo nj (pj + (y - pi)) else a.wo ni y) ∧ va_cpy z.h.abt z.h.abt (g.st (o.ho nj) + 1 + pj) (g.st (o.ho ni) + 1 + pi) x (g.st (o.ho ni) + 1 + y) = bW o.ho (if pi ≤ y ∧ y < pi + x then a.wo nj (pj + (y - pi)) else a.wo ni y)
                  unfold va_cpy
                  by_cases hin : pi ≤ y ∧ y < pi + x
                  · rw [if_pos hin, if_pos (by omega), if_pos (by omega)]
                    have := RRj.2 (pj + (y - pi)) (by omega)
                    rw [show g.st (o.ho nj) + 1 + pj + (g.st (o.ho ni) + 1 + y - (g.st (o.ho ni) + 1 + pi)) = g.st (o.ho nj) + 1 + (pj + (y - pi)) from by omega]
                    exact this
                  · rw [if_neg hin, if_neg (by omega), if_neg (by omega)]
                    exact RRi.2 y hy)
                have R2 := RM_rw (m := Ms.sthr (Ms.sthr m 0) 0) (t := va_cpy m.awt m.awt (q.sr nj + pj) (q.sr ni + pi) x) (v := va_cpy m.awv m.awv (q.sr nj + pj) (q.sr ni + pi) x) (w := fun y => if pi ≤ y ∧ y < pi + x then a.wo nj (pj + (y - pi)) else a.wo ni y) R oni k2i (by
                  intro y hy
                  have : ¬ (q.sr ni + pi ≤ y ∧ y < q.sr ni + pi + x) := by
                    intro d
                    exact hy (y - q.sr ni) (by omega) (by omega)
                  exact ⟨if_neg this, if_neg this⟩) (by
                  intro y hy
                  show va_cpy m.awt m.awt (q.sr nj + pj) (q.sr ni + pi) x (q.sr ni + y) = tgW (if pi ≤ y ∧ y < pi + x then a.wo nj (pj + (y - pi)) else a.wo ni y) ∧ va_cpy m.awv m.awv (q.sr nj + pj) (q.sr ni + pi) x (q.sr ni + y) = vlW (if pi ≤ y ∧ y < pi + x then a.wo nj (pj + (y - pi)) else a.wo ni y)
                  unfold va_cpy
                  by_cases hin : pi ≤ y ∧ y < pi + x
                  · rw [if_pos hin, if_pos (by omega), if_pos (by omega)]
                    have := mj.2.2 (pj + (y - pi)) (by omega)
                    rw [show q.sr nj + pj + (q.sr ni + y - (q.sr ni + pi)) = q.sr nj + (pj + (y - pi)) from by omega]
                    exact this
                  · rw [if_neg hin, if_neg (by omega), if_neg (by omega)]
                    exact mi.2.2 y hy)
                refine ⟨Lo.sh z (Hs.wm z.h (va_cpy z.h.abt z.h.abt (g.st (o.ho nj) + 1 + pj) (g.st (o.ho ni) + 1 + pi) x) (va_cpy z.h.arf z.h.arf (g.st (o.ho nj) + 1 + pj) (g.st (o.ho ni) + 1 + pi) x)), Ms.wwv (Ms.wwt (Ms.sthr (Ms.sthr m 0) 0) (va_cpy m.awt m.awt (q.sr nj + pj) (q.sr ni + pi) x)) (va_cpy m.awv m.awv (q.sr nj + pj) (q.sr ni + pi) x), 0, ?_, ?_, rfl, ⟨g, o, q, _, C2, R2, AI_row A oni k2i ?_, h1, h2⟩, rfl⟩
                · unfold la_copy
                  rw [hc0, hX, hp_copyWords_e c.i.hb (by omega) (by omega), PB.2.2.2.2.1, PH2.2.2.2.1]
                · rw [hm0]
                  unfold md_copy_j88
                  have a1 := md_at_e (m := Ms.sthr (Ms.sthr m 0) 0) (k := 0) (x := pj) R A hj ej onj k2j (q_add pj 0)
                  have a2 := md_at_e (m := Ms.sthr (Ms.sthr m 0) 0) (k := 0) (x := pi) R A hi ei oni k2i (q_add pi 0)
                  rw [if_pos l00, a1, PB.2.1, a2, PB.2.1]
                  exact md_copy_e (m := Ms.sthr (Ms.sthr m 0) 0) (show q.sr nj + pj + x ≤ m.nwt by omega) (show q.sr ni + pi + x ≤ m.nwt by omega) zw.2.2 Z.wt
                · intro y hy
                  show okW a (if pi ≤ y ∧ y < pi + x then a.wo nj (pj + (y - pi)) else a.wo ni y)
                  by_cases hin : pi ≤ y ∧ y < pi + x
                  · rw [if_pos hin]; exact okj.2 _ (by omega)
                  · rw [if_neg hin]; exact oki.2 y hy
              · rw [if_neg gj, PB.2.2.1] at hX
                rw [if_neg gj, if_pos rfl] at hm0
                refine bad3 (hc0.trans hX) ?_
                rw [hm0]
                unfold md_copy_j83 md_copy_j88
                rw [if_neg l30]
            · rw [if_neg gi, PB.2.2.1] at hX
              rw [if_neg gi, if_pos rfl] at hm0
              refine bad3 (hc0.trans hX) ?_
              rw [hm0]
              unfold md_copy_j83 md_copy_j88
              rw [if_neg l30]
          · rw [if_neg hkj, PB.2.2.1] at hX
            rw [if_neg hkj, if_pos rfl] at hm0
            refine bad2 (hc0.trans hX) ?_
            rw [hm0]
            unfold md_copy_j61 md_copy_j88
            rw [if_neg l20]
        · rw [if_neg hki, PB.2.2.1] at hX
          rw [if_neg hki, if_pos rfl] at hm0
          refine bad2 (hc0.trans hX) ?_
          rw [hm0]
          unfold md_copy_j61 md_copy_j88
          rw [if_neg l20]
      · refine bad ?_ ?_
        · unfold wh_copy
          rw [nreg_y hi, PB.2.2.2.1, nreg_y hj, PB.2.2.2.1, within_n hn, PB.2.2.1]
        · unfold md_copy md_copy_j30 md_copy_j31
          rw [mreg_y hi, PB.2.1, if_neg ne10, mreg_y hj, PB.2.1, if_neg ne10, outs_n hn, PB.2.1, if_neg ne10, if_neg l10]
    · refine bad ?_ ?_
      · unfold wh_copy
        rw [nreg_y hi, PB.2.2.2.1, nreg_n hs, PB.2.2.1]
      · unfold md_copy md_copy_j30 md_copy_j31
        rw [mreg_y hi, PB.2.1, if_neg ne10, mreg_n hs, PB.2.1, if_pos rfl, if_neg l10]
  · refine bad ?_ ?_
    · unfold wh_copy
      rw [nreg_n hr, PB.2.2.1]
    · unfold md_copy md_copy_j30 md_copy_j31
      rw [mreg_n hr, PB.2.1, if_pos rfl, if_neg l10]
