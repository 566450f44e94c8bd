/-! remove on both sides. -/
theorem RM_ent {m : Ms} {q : Gm} {a : Ab} {n tn2 : Nat} {l2 : List Slo} {el2 : List Ent} {em eo et : Nat → Int32} {ev : Nat → Int64} {en : Int32} (R : RM m q a) (hl : l2.length = (a.sl n).length) (E : RMe (Ms.sent (Ms.ew m em eo et ev) en) (mset a n l2 (a.no n) el2 tn2)) : RM (Ms.sent (Ms.ew m em eo et ev) en) q (mset a n l2 (a.no n) el2 tn2) := by
  refine ⟨R.s, R.z, R.k, R.rg, R.th, R.k0, R.fl, ?_, R.sr, R.ws, R.bs, E⟩
  intro k hk
  have ob := R.ob k hk
  refine ⟨ob.so, ob.si, ob.kp, ob.rw, ob.tx, fun k4 => ?_⟩
  have om := ob.mp k4
  have e1 : ((mset a n l2 (a.no n) el2 tn2).sl k).length = (a.sl k).length := by
    show (updN a.sl n l2 k).length = _
    by_cases h : k = n
    · subst h; rw [updN_s]; exact hl
    · rw [updN_o _ _ h]
  have e2 : (mset a n l2 (a.no n) el2 tn2).no k = a.no k := by
    show updN a.no n (a.no n) k = _
    by_cases h : k = n
    · subst h; rw [updN_s]
    · rw [updN_o _ _ h]
  rw [e1, e2]
  exact om
def Shf (m : Ms) (b x : Nat) (em eo et : Nat → Int32) (ev : Nat → Int64) : Prop := ∀ y, em y = (if b ≤ y ∧ y < x then m.aem (y + 1) else m.aem y) ∧ eo y = (if b ≤ y ∧ y < x then m.aeo (y + 1) else m.aeo y) ∧ ∀ i, i < 8 → et (8 * y + i) = (if b ≤ y ∧ y < x then m.aet (8 * (y + 1) + i) else m.aet (8 * y + i)) ∧ ev (8 * y + i) = (if b ≤ y ∧ y < x then m.aev (8 * (y + 1) + i) else m.aev (8 * y + i))
theorem md_remove_e {m : Ms} {q : Gm} {a : Ab} {b : Nat} {x4 : Int32} (R : RM m q a) (hb : b < a.el.length) : ∃ em eo et ev, md_remove_l44 FU x4 (Int32.ofNat b) m = some (Ms.sent (Ms.ew m em eo et ev) (Int32.ofNat (a.el.length - 1)), x4) ∧ Shf m b (a.el.length - 1) em eo et ev := by
  have hle := R.e.le
  have hel := R.z.el
  have loop : ∀ k x fu em eo et ev, x + 1 + k = a.el.length → k < fu → b ≤ x → Shf m b x em eo et ev →
      ∃ em2 eo2 et2 ev2, md_remove_l44 fu x4 (Int32.ofNat x) (Ms.ew m em eo et ev) = some (Ms.sent (Ms.ew m em2 eo2 et2 ev2) (Int32.ofNat (a.el.length - 1)), x4) ∧ Shf m b (a.el.length - 1) em2 eo2 et2 ev2 := by
    intro k
    induction k with
    | zero =>
      intro x fu em eo et ev hx hfu hbx S
      obtain ⟨f, rfl⟩ : ∃ f, fu = f + 1 := ⟨fu - 1, by omega⟩
      have e1 : Int32.ofNat x + 1 = Int32.ofNat (x + 1) := q_add x 1
      refine ⟨em, eo, et, ev, ?_, ?_⟩
      · rw [md_remove_l44, e1]
        show (if m.ent ≤ Int32.ofNat (x + 1) then some (Ms.sent (Ms.ew m em eo et ev) (m.ent - 1), x4) else _) = _
        rw [R.e.ent, if_pos ((q_le (by omega) (by omega)).mpr (by omega)), show Int32.ofNat a.el.length - 1 = Int32.ofNat (a.el.length - 1) from q_sub (b := 1) (by omega)]
      · rw [show a.el.length - 1 = x from by omega]
        exact S
    | succ k ih =>
      intro x fu em eo et ev hx hfu hbx S
      obtain ⟨f, rfl⟩ : ∃ f, fu = f + 1 := ⟨fu - 1, by omega⟩
      have e1 : Int32.ofNat x + 1 = Int32.ofNat (x + 1) := q_add x 1
      have mv := md_moveEntry_e (m := Ms.ew m em eo et ev) (e := x + 1) (t := x) (by omega) (show x + 1 < m.nem by omega) (show m.nem ≤ 4096 by omega) R.z.eo R.z.et R.z.ev
      have mv : md_moveEntry (Ms.ew m em eo et ev) (Int32.ofNat (x + 1)) (Int32.ofNat x) = some (Ms.ew m (upd em x (em (x + 1))) (upd eo x (eo (x + 1))) (va_cpy et et (8 * (x + 1)) (8 * x) 8) (va_cpy ev ev (8 * (x + 1)) (8 * x) 8), ()) := mv
      obtain ⟨em2, eo2, et2, ev2, f1, f2⟩ := ih (x + 1) f (upd em x (em (x + 1))) (upd eo x (eo (x + 1))) (va_cpy et et (8 * (x + 1)) (8 * x) 8) (va_cpy ev ev (8 * (x + 1)) (8 * x) 8) (by omega) (by omega) (by omega) (by
        intro y
        by_cases hy : y = x
        · subst hy
          have Sy := S (y + 1)
          rw [if_neg (by omega), if_neg (by omega)] at Sy
          rw [if_pos (by omega), if_pos (by omega)]
          refine ⟨(if_pos rfl).trans Sy.1, (if_pos rfl).trans Sy.2.1, ?_⟩
          intro i hi
          have Si := Sy.2.2 i hi
          rw [if_neg (by omega), if_neg (by omega)] at Si
          rw [if_pos (by omega), if_pos (by omega)]
          unfold va_cpy
          rw [if_pos (by omega), if_pos (by omega), show 8 * (y + 1) + (8 * y + i - 8 * y) = 8 * (y + 1) + i from by omega]
          exact Si
        · have Sy := S y
          have hc : (b ≤ y ∧ y < x + 1) = (b ≤ y ∧ y < x) := propext ⟨fun h => ⟨h.1, by omega⟩, fun h => ⟨h.1, by omega⟩⟩
          refine ⟨?_, ?_, ?_⟩
          · rw [show upd em x (em (x + 1)) y = em y from if_neg hy, Sy.1]
            by_cases h : b ≤ y ∧ y < x
            · rw [if_pos h, if_pos (by omega)]
            · rw [if_neg h, if_neg (by omega)]
          · rw [show upd eo x (eo (x + 1)) y = eo y from if_neg hy, Sy.2.1]
            by_cases h : b ≤ y ∧ y < x
            · rw [if_pos h, if_pos (by omega)]
            · rw [if_neg h, if_neg (by omega)]
          · intro i hi
            have Si := Sy.2.2 i hi
            have q1 : va_cpy et et (8 * (x + 1)) (8 * x) 8 (8 * y + i) = et (8 * y + i) := if_neg (by omega)
            have q2 : va_cpy ev ev (8 * (x + 1)) (8 * x) 8 (8 * y + i) = ev (8 * y + i) := if_neg (by omega)
            rw [q1, q2, Si.1, Si.2]
            by_cases h : b ≤ y ∧ y < x
            · have h2 : b ≤ y ∧ y < x + 1 := by omega
              rw [if_pos h, if_pos h, if_pos h2, if_pos h2]
              exact ⟨rfl, rfl⟩
            · have h2 : ¬ (b ≤ y ∧ y < x + 1) := by omega
              rw [if_neg h, if_neg h, if_neg h2, if_neg h2]
              exact ⟨rfl, rfl⟩)
      refine ⟨em2, eo2, et2, ev2, ?_, f2⟩
      rw [md_remove_l44, e1]
      show (if m.ent ≤ Int32.ofNat (x + 1) then _ else bw (md_moveEntry (Ms.ew m em eo et ev) (Int32.ofNat (x + 1)) (Int32.ofNat x)) (fun z7 _ => (md_remove_l44 f x4 (Int32.ofNat (x + 1)) z7))) = _
      rw [R.e.ent, if_neg (fun d => absurd ((q_le (by omega) (by omega)).mp d) (by omega)), mv, PB.2.2.2.2.1]
      exact f1
  exact loop (a.el.length - 1 - b) b FU m.aem m.aeo m.aet m.aev (by omega) (by unfold FU; omega) (Nat.le_refl _) (by
    intro y
    rw [if_neg (by omega), if_neg (by omega)]
    refine ⟨rfl, rfl, ?_⟩
    intro i hi
    rw [if_neg (by omega), if_neg (by omega)]
    exact ⟨rfl, rfl⟩)
theorem RM_del {m : Ms} {q : Gm} {a : Ab} {n b l : Nat} {em eo et : Nat → Int32} {ev : Nat → Int64} (R : RM m q a) (A : AI a) (hb : b < a.el.length) (S : Shf m b (a.el.length - 1) em eo et ev) : RM (Ms.sent (Ms.ew m em eo et ev) (Int32.ofNat (a.el.length - 1))) q (mset a n ((a.sl n).set l none) (a.no n) (a.el.eraseIdx b) a.tn) := by
  have hll : (a.el.eraseIdx b).length = a.el.length - 1 := by rw [List.length_eraseIdx, if_pos hb]
  have hle := R.e.le
  have get : ∀ e, (h : e < (a.el.eraseIdx b).length) → En a em eo et ev e (a.el.eraseIdx b)[e] := by
    intro e h
    have Se := S e
    rw [List.getElem_eraseIdx]
    have k8 : ∀ t, (h : t < a.el.length) → a.nk (a.el[t]).1 + a.nv (a.el[t]).1 ≤ 8 := by
      intro t ht
      obtain ⟨o1, o2⟩ := A.el _ (List.getElem_mem ht)
      have okm := A.mp o1 o2
      have := okm.nk
      have := okm.nv
      omega
    by_cases hlt : e < b
    · rw [dif_pos hlt]
      rw [if_neg (by omega), if_neg (by omega)] at Se
      refine ⟨Se.1.trans (R.e.mp e (by omega)), Se.2.1.trans (R.e.od e (by omega)), ?_⟩
      intro i hi
      have h8 := k8 e (by omega)
      have Si := Se.2.2 i (by omega)
      rw [if_neg (by omega), if_neg (by omega)] at Si
      have := R.e.wd e (by omega) i hi
      exact ⟨Si.1.trans this.1, Si.2.trans this.2⟩
    · rw [dif_neg hlt]
      rw [if_pos (by omega), if_pos (by omega)] at Se
      refine ⟨Se.1.trans (R.e.mp (e + 1) (by omega)), Se.2.1.trans (R.e.od (e + 1) (by omega)), ?_⟩
      intro i hi
      have h8 := k8 (e + 1) (by omega)
      have Si := Se.2.2 i (by omega)
      rw [if_pos (by omega), if_pos (by omega)] at Si
      have := R.e.wd (e + 1) (by omega) i hi
      exact ⟨Si.1.trans this.1, Si.2.trans this.2⟩
  refine RM_ent R (by rw [List.length_set]) ⟨?_, ?_, ?_, ?_, ?_⟩
  · show Int32.ofNat (a.el.length - 1) = Int32.ofNat (a.el.eraseIdx b).length
    rw [hll]
  · show (a.el.eraseIdx b).length ≤ m.nem
    omega
  · intro e h
    exact (get e h).1
  · intro e h
    exact (get e h).2.1
  · intro e h i hi
    exact (get e h).2.2 i hi
