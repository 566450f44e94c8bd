/-! The reference's append. -/
theorem md_j158 {m : Ms} {q : Gm} {a : Ab} {n s p jr : Nat} (R : RM m q a) (A : AI a) (hj : jr < 16) (on : obj a n) (k4 : a.kd n = 4) (gj : a.rg jr = .inr (s, p)) (os : obj a s) (k2 : a.kd s = 2) (hl : p + (a.nk n + a.nv n) ≤ a.ln s) (tk : tkk a n (fun i => a.wo s (p + i))) (hne : a.el.length < m.nem) :
    ∃ m2, md_put_j158 (Int32.ofNat jr) (Int32.ofNat n) m = some (0, m2, Int32.ofNat (a.no n)) ∧ RM m2 q (appA a n s p) ∧ PM m2 = PM m ∧ m2.thr = m.thr := by
  have okm := A.mp on k4
  have nk := okm.nk
  have nv := okm.nv
  have zk := R.z.K
  have hK := R.k
  have hn := on.2.1
  have om := (R.ob n on).mp k4
  have zel := R.z.el
  have k88 : ∀ t, (h : t < a.el.length) → a.nk (a.el[t]).1 + a.nv (a.el[t]).1 ≤ 8 := by
    intro t ht
    obtain ⟨o1, o2⟩ := A.el _ (List.getElem_mem ht)
    have okm := A.mp o1 o2
    have := okm.nk
    have := okm.nv
    omega
  have R1 : RM (Ms.weo (Ms.wem m (upd m.aem a.el.length (Int32.ofNat n))) (upd m.aeo a.el.length (Int32.ofNat (a.no n)))) q a := by
    refine ⟨R.s, R.z, R.k, R.rg, R.th, R.k0, R.fl, R.ob, R.sr, R.ws, R.bs, ⟨R.e.ent, R.e.le, ?_, ?_, R.e.wd⟩⟩
    · intro e h
      exact (if_neg (by omega)).trans (R.e.mp e h)
    · intro e h
      exact (if_neg (by omega)).trans (R.e.od e h)
  obtain ⟨et, ev, f1, f2, f3⟩ := md_setEntry_e (b := a.el.length) (lo := 0) (hi := a.nk n + a.nv n) R1 A hj hne gj os k2 (Nat.zero_le _) (by omega) hl
  obtain ⟨em, hem⟩ : ∃ em, em = upd m.aem a.el.length (Int32.ofNat n) := ⟨_, rfl⟩
  obtain ⟨eo, heo⟩ : ∃ eo, eo = upd m.aeo a.el.length (Int32.ofNat (a.no n)) := ⟨_, rfl⟩
  rw [← hem, ← heo] at f1 R1
  have f3 : ∀ y, y < 8 * a.el.length → et y = m.aet y ∧ ev y = m.aev y := fun y hy => f3 y (by omega)
  have R2 : RM (Ms.ew m em eo et ev) q a := by
    refine ⟨R1.s, R1.z, R1.k, R1.rg, R1.th, R1.k0, R1.fl, R1.ob, R1.sr, R1.ws, R1.bs, ⟨R1.e.ent, R1.e.le, R1.e.mp, R1.e.od, ?_⟩⟩
    intro e h i hi
    have := k88 e h
    have q1 := f3 (8 * e + i) (by omega)
    have q2 := R.e.wd e h i hi
    exact ⟨q1.1.trans q2.1, q1.2.trans q2.2⟩
  have l2 := md_l209 R2 A hj on k4 gj os k2 hl tk
  have kok := kNs_ok A on k4 os k2 hl tk
  have R3 := RM_frz R2 (fun x hx => (kok x hx).1)
  obtain ⟨kp, hkp⟩ : ∃ kp, kp = (kNs a n s p).foldl (fun f n => upd f n 1) (Ms.ew m em eo et ev).akp := ⟨_, rfl⟩
  rw [← hkp] at l2 R3
  refine ⟨Ms.wod (Ms.wfi (Ms.sent (Ms.wkp (Ms.ew m em eo et ev) kp) (Int32.ofNat (a.el.length + 1))) (upd m.afi n (Int32.ofNat ((a.sl n).length + 1)))) (upd m.aod n (Int32.ofNat (a.no n + 1))), ?_, ?_, rfl, rfl⟩
  rotate_left
  · show RM (Ms.wod (Ms.wfi (Ms.sent (Ms.wkp (Ms.ew m em eo et ev) kp) (Int32.ofNat (a.el.length + 1))) (upd m.afi n (Int32.ofNat ((a.sl n).length + 1)))) (upd m.aod n (Int32.ofNat (a.no n + 1)))) q (appA a n s p)
    have s1 : (appA a n s p).sl n = a.sl n ++ [some (ent a n s p)] := updN_s _ _ _
    have s2 : (appA a n s p).no n = a.no n + 1 := updN_s _ _ _
    refine ⟨R3.s, R3.z, R3.k, R3.rg, R3.th, R3.k0, R3.fl, ?_, R3.sr, R3.ws, R3.bs, ⟨?_, ?_, ?_, ?_, ?_⟩⟩
    · intro k ok
      have obk := R3.ob k ok
      refine ⟨obk.so, obk.si, obk.kp, obk.rw, obk.tx, ?_⟩
      intro kk
      have omk := obk.mp kk
      by_cases hkn : k = n
      · subst hkn
        rw [s1, s2, List.length_append, List.length_singleton]
        exact ⟨omk.1, omk.2.1, omk.2.2.1, omk.2.2.2.1, if_pos rfl, if_pos rfl⟩
      · have s3 : (appA a n s p).sl k = a.sl k := updN_o _ _ hkn
        have s4 : (appA a n s p).no k = a.no k := updN_o _ _ hkn
        rw [s3, s4]
        exact ⟨omk.1, omk.2.1, omk.2.2.1, omk.2.2.2.1, (if_neg hkn).trans omk.2.2.2.2.1, (if_neg hkn).trans omk.2.2.2.2.2⟩
    · show Int32.ofNat (a.el.length + 1) = Int32.ofNat (a.el ++ [(n, ent a n s p)]).length
      rw [List.length_append, List.length_singleton]
    · show (a.el ++ [(n, ent a n s p)]).length ≤ m.nem
      rw [List.length_append, List.length_singleton]
      omega
    · intro e h
      have h : e < (a.el ++ [(n, ent a n s p)]).length := h
      show em e = Int32.ofNat ((a.el ++ [(n, ent a n s p)])[e]).1
      rw [List.length_append, List.length_singleton] at h
      by_cases he : e < a.el.length
      · rw [List.getElem_append_left he]
        exact R2.e.mp e he
      · have : e = a.el.length := by omega
        subst this
        rw [List.getElem_append_right (Nat.le_refl _), hem]
        simp [upd]
    · intro e h
      have h : e < (a.el ++ [(n, ent a n s p)]).length := h
      show eo e = Int32.ofNat ((a.el ++ [(n, ent a n s p)])[e]).2.1
      rw [List.length_append, List.length_singleton] at h
      by_cases he : e < a.el.length
      · rw [List.getElem_append_left he]
        exact R2.e.od e he
      · have : e = a.el.length := by omega
        subst this
        rw [List.getElem_append_right (Nat.le_refl _), heo]
        simp [upd, ent]
    · intro e h i hi
      have h : e < (a.el ++ [(n, ent a n s p)]).length := h
      have hi : i < a.nk ((a.el ++ [(n, ent a n s p)])[e]).1 + a.nv ((a.el ++ [(n, ent a n s p)])[e]).1 := hi
      show et (8 * e + i) = tgW (((a.el ++ [(n, ent a n s p)])[e]).2.2 i) ∧ ev (8 * e + i) = vlW (((a.el ++ [(n, ent a n s p)])[e]).2.2 i)
      rw [List.length_append, List.length_singleton] at h
      by_cases he : e < a.el.length
      · rw [List.getElem_append_left he] at hi ⊢
        exact R2.e.wd e he i hi
      · have : e = a.el.length := by omega
        subst this
        have eg : (a.el ++ [(n, ent a n s p)])[a.el.length] = (n, ent a n s p) := by simp
        rw [eg] at hi ⊢
        have hi : i < a.nk n + a.nv n := hi
        have ew : (ent a n s p).2 i = a.wo s (p + i) := if_pos ⟨Nat.zero_le _, hi⟩
        rw [ew]
        exact f2 i (Nat.zero_le _) hi
  · unfold md_put_j158
    rw [R.e.ent, q_inb hne (by omega), R.z.od, R.z.eo, R.z.ke, R.z.va, q_inb (show n < q.K by omega) (by omega), q_inb hne (by omega), q_nat (show a.el.length < 2147483648 by omega), q_nat (show n < 2147483648 by omega), om.1, om.2.1, om.2.2.2.2.2, q_add, gdT, gdT, gdT, gdT, gdT, ← hem, ← heo, show (0 : Int32) = Int32.ofNat 0 from rfl, f1, PB.2.2.2.2.1]
    exact l2
