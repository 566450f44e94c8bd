/-! The reference's append. -/
theorem AI_frz : ∀ {N : List Nat} {a : Ab}, AI a → AI (fzN a N) := by
  intro N
  induction N with
  | nil => intro a A; exact A
  | cons n t ih =>
    intro a A
    exact ih (AI_frz1 (n := n) A)
theorem eln_app {l : List Ent} {n k : Nat} {e : Nat × (Nat → Wrd)} : (l ++ [(n, e)]).filter (fun t => t.1 == k) = l.filter (fun t => t.1 == k) ++ (if n = k then [(n, e)] else []) := by
  rw [List.filter_append]
  by_cases h : n = k
  · rw [if_pos h, List.filter_cons_of_pos (by simp [h]), List.filter_nil]
  · rw [if_neg h, List.filter_cons_of_neg (by simp [h]), List.filter_nil]
theorem AI_app {a : Ab} {n s p : Nat} (A : AI a) (on : obj a n) (k4 : a.kd n = 4) (os : obj a s) (k2 : a.kd s = 2) (hls : p + (a.nk n + a.nv n) ≤ a.ln s) (tk : tkk a n (fun i => a.wo s (p + i))) (hr : (a.sl n).length < a.nc n) (ht : a.tn < 1000) : AI (appA a n s p) := by
  have okm := A.mp on k4
  have okr := A.rw os k2
  have no := okm.no
  have cn := A.cn n on k4
  have sub : ∀ x, x ∈ ens (a.sl n ++ [some (ent a n s p)]) → x ∈ ens (a.sl n) ∨ x = ent a n s p := by
    intro x hx
    rw [ens_app] at hx
    rcases List.mem_append.mp hx with h | h
    · exact Or.inl h
    · exact Or.inr (List.mem_singleton.mp h)
  refine AI_mset (A := AI_frz (N := kNs a n s p) A) on k4 ?_ (Nat.le_succ _) ht ?_ ?_ ?_ ?_ ?_ ?_ ?_ ?_ ?_ ?_
  · rw [List.length_append, List.length_singleton]
    exact hr
  · omega
  · rw [ens_app, List.pairwise_append]
    refine ⟨okm.srt, List.pairwise_singleton _ _, ?_⟩
    intro x hx y hy
    rw [List.mem_singleton.mp hy]
    exact okm.lt x hx
  · intro x hx
    rcases sub x hx with h | h
    · have := okm.lt x h
      omega
    · rw [h]
      exact Nat.lt_succ_self _
  · intro x hx i hi
    rcases sub x hx with h | h
    · exact okm.wd x h i hi
    · rw [h]
      have hi : i < a.nk n + a.nv n := hi
      have ew : (ent a n s p).2 i = a.wo s (p + i) := if_pos ⟨Nat.zero_le _, hi⟩
      rw [ew]
      exact okr.2 (p + i) (by omega)
  · intro x hx i hi
    rcases sub x hx with h | h
    · exact okm.mk x h i hi
    · rw [h]
      have hi : a.nk n + a.nv n ≤ i := hi
      exact if_neg (by omega)
  · intro x hx i hi hti
    rcases sub x hx with h | h
    · exact okm.tx x h i hi hti
    · rw [h]
      have hi : i < a.nk n := hi
      have ew : (ent a n s p).2 i = a.wo s (p + i) := if_pos ⟨Nat.zero_le _, by omega⟩
      rw [ew]
      exact tk i hi hti
  · intro t ht
    rcases List.mem_append.mp ht with h | h
    · exact A.el t h
    · rw [List.mem_singleton.mp h]
      exact ⟨on, k4⟩
  · rw [List.length_append, List.length_singleton]
    have := A.en
    omega
  · rw [eln_app, if_pos rfl, List.map_append, ens_app, cn]
    rfl
  · intro k hk
    rw [eln_app, if_neg (fun e => hk e.symm), List.append_nil]
    rfl
theorem md_l209 {m : Ms} {q : Gm} {a : Ab} {n s p jr : Nat} (R : RM m q a) (A : AI a) (hj : jr < 16) (on : obj a n) (k4 : a.kd n = 4) (gj : a.rg jr = .inr (s, p)) (os : obj a s) (k2 : a.kd s = 2) (hl : p + (a.nk n + a.nv n) ≤ a.ln s) (tk : tkk a n (fun i => a.wo s (p + i))) :
    md_put_l209 FU (Int32.ofNat jr) (Int32.ofNat n) 0 m = some (0, Ms.wod (Ms.wfi (Ms.sent (Ms.wkp m ((kNs a n s p).foldl (fun f n => upd f n 1) m.akp)) (Int32.ofNat (a.el.length + 1))) (upd m.afi n (Int32.ofNat ((a.sl n).length + 1)))) (upd m.aod n (Int32.ofNat (a.no n + 1))), Int32.ofNat (a.no n)) := by
  have okm := A.mp on k4
  have okr := A.rw os k2
  have nk := okm.nk
  have zk := R.z.K
  have hK := R.k
  have hn := on.2.1
  have om := (R.ob n on).mp k4
  have or2 := (R.ob s os).rw k2
  have zw := R.z.wl
  have or1 := or2.2.1
  have loop : ∀ k i fu kp, i + k = a.nk n → k < fu → md_put_l209 fu (Int32.ofNat jr) (Int32.ofNat n) (Int32.ofNat i) (Ms.wkp m kp) = some (0, Ms.wod (Ms.wfi (Ms.sent (Ms.wkp m ((kNr a n (fun i => a.wo s (p + i)) i k).foldl (fun f n => upd f n 1) kp)) (Int32.ofNat (a.el.length + 1))) (upd m.afi n (Int32.ofNat ((a.sl n).length + 1)))) (upd m.aod n (Int32.ofNat (a.no n + 1))), Int32.ofNat (a.no n)) := by
    intro k
    induction k with
    | zero =>
      intro i fu kp hi hfu
      obtain ⟨f, rfl⟩ : ∃ f, fu = f + 1 := ⟨fu - 1, by omega⟩
      rw [md_put_l209]
      show gd (inb (Int32.ofNat n) m.nke) (if m.ake (Int32.ofNat n).toNatClampNeg ≤ Int32.ofNat i then (gd (inb (Int32.ofNat n) m.nfi) (gd (inb (Int32.ofNat n) m.nfi) (gd (inb (Int32.ofNat n) m.nod) (gd (inb (Int32.ofNat n) m.nod) (gd (inb (Int32.ofNat n) m.nod) (some (0, ((Ms.wod (Ms.wfi (Ms.sent (Ms.wkp m kp) (m.ent + 1)) (upd m.afi (Int32.ofNat n).toNatClampNeg (m.afi (Int32.ofNat n).toNatClampNeg + 1))) (upd m.aod (Int32.ofNat n).toNatClampNeg (m.aod (Int32.ofNat n).toNatClampNeg + 1))), (((upd m.aod (Int32.ofNat n).toNatClampNeg (m.aod (Int32.ofNat n).toNatClampNeg + 1)) (Int32.ofNat n).toNatClampNeg) - 1))))))))) else _) = _
      have e1 : Int32.ofNat (a.sl n).length + 1 = Int32.ofNat ((a.sl n).length + 1) := q_add _ 1
      have e2 : Int32.ofNat (a.no n) + 1 = Int32.ofNat (a.no n + 1) := q_add _ 1
      have e3 : Int32.ofNat a.el.length + 1 = Int32.ofNat (a.el.length + 1) := q_add _ 1
      have e4 : upd m.aod n (Int32.ofNat (a.no n + 1)) n - 1 = Int32.ofNat (a.no n) := by
        rw [show upd m.aod n (Int32.ofNat (a.no n + 1)) n = Int32.ofNat (a.no n + 1) from if_pos rfl]
        exact q_sub (b := 1) (by omega)
      rw [R.z.ke, R.z.fi, R.z.od, q_inb (show n < q.K by omega) (by omega), q_nat (show n < 2147483648 by omega), om.1, if_pos ((q_le (by omega) (by omega)).mpr (by omega)), om.2.2.2.2.1, om.2.2.2.2.2, R.e.ent, e1, e2, e3, e4, gdT, gdT, gdT, gdT, gdT, gdT]
      rfl
    | succ k ih =>
      intro i fu kp hi hfu
      obtain ⟨f, rfl⟩ : ∃ f, fu = f + 1 := ⟨fu - 1, by omega⟩
      have e1 : Int32.ofNat i + 1 = Int32.ofNat (i + 1) := q_add i 1
      have hb := bit_e (a.nt n) (nt_lt okm) i (by omega)
      have ok := okr.2 (p + i) (by omega)
      have wo := or2.2.2 (p + i) (by omega)
      have hat : md_at (Ms.wkp m kp) (Int32.ofNat jr) (Int32.ofNat i) = some (Int32.ofNat (q.sr s + (p + i))) := md_at_e (m := m) (x := p + i) R A hj gj os k2 (q_add p i)
      rw [md_put_l209, hat, PB.2.1, e1]
      show gd (inb (Int32.ofNat n) m.nke) (if m.ake (Int32.ofNat n).toNatClampNeg ≤ Int32.ofNat i then _ else (gd (inb (Int32.ofNat (q.sr s + (p + i))) m.nwt) (gd (inb (Int32.ofNat n) m.nte) (if ((m.ate (Int32.ofNat n).toNatClampNeg >>> (Int32.ofNat i &&& 31)) &&& 1) = 1 then (if m.awt (Int32.ofNat (q.sr s + (p + i))).toNatClampNeg ≤ 0 then (md_put_l209 f (Int32.ofNat jr) (Int32.ofNat n) (Int32.ofNat (i + 1)) (Ms.wkp m kp)) else (gd (inb (m.awt (Int32.ofNat (q.sr s + (p + i))).toNatClampNeg) m.nkp) ((md_put_l209 f (Int32.ofNat jr) (Int32.ofNat n) (Int32.ofNat (i + 1)) (Ms.wkp m (upd kp ((m.awt (Int32.ofNat (q.sr s + (p + i))).toNatClampNeg).toNatClampNeg) (vp_nar .boolean 1))))))) else (md_put_l209 f (Int32.ofNat jr) (Int32.ofNat n) (Int32.ofNat (i + 1)) (Ms.wkp m kp)))))) = _
      rw [R.z.ke, q_inb (show n < q.K by omega) (by omega), q_nat (show n < 2147483648 by omega), om.1, if_neg (fun d => absurd ((q_le (by omega) (by omega)).mp d) (by omega)), R.z.te, q_inb (show n < q.K by omega) (by omega), om.2.2.1, hb, q_inb (show q.sr s + (p + i) < m.nwt by omega) (by omega), q_nat (show q.sr s + (p + i) < 2147483648 by omega), wo.1, gdT, gdT, gdT]
      by_cases ht : (a.nt n).testBit i = true
      · rw [if_pos ht, if_pos rfl]
        obtain ⟨q1, q2⟩ := isTx_t A ok (tk i (by omega) ht)
        rcases q2 with q2 | ⟨q2, q3⟩
        · rw [if_pos (show tgW (a.wo s (p + i)) ≤ 0 from by rw [q1]; show (if nW (a.wo s (p + i)) = 0 then (-1 : Int32) else _) ≤ 0; rw [if_pos q2]; decide), ih (i + 1) f kp (by omega) (by omega), kNr, if_neg (fun d => d.2 q2), List.nil_append]
        · have q0 : nW (a.wo s (p + i)) ≠ 0 := by have := q2.1; omega
          have qle := q2.2.1
          have tg : tgW (a.wo s (p + i)) = Int32.ofNat (nW (a.wo s (p + i))) := by
            rw [q1]
            exact if_neg q0
          rw [tg, if_neg (q_nle0 (by omega) q0), R.z.kp, q_inb (show nW (a.wo s (p + i)) < q.K by omega) (by omega), gdT, q_nat (by omega), ih (i + 1) f _ (by omega) (by omega), kNr, if_pos ⟨ht, q0⟩]
          rfl
      · rw [if_neg ht, if_neg (show ¬ ((0 : Int32) = 1) from by decide), ih (i + 1) f kp (by omega) (by omega), kNr, if_neg (fun d => ht d.1), List.nil_append]
  exact loop (a.nk n) 0 FU m.akp (by omega) (by unfold FU; omega)
