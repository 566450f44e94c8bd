/-! The class's append. -/
theorem hb_w {z : Hs} {b : Nat → Int64} {f : Nat → Int32} (h : hb z) (ff : ∀ x, f x = 0 ∨ f x = 1) : hb (Hs.wm z b f) := ⟨h.1, h.2.1, h.2.2.1, h.2.2.2.1, h.2.2.2.2.1, ff⟩
theorem field_w {z : Hs} {g : Gh} {h j x : Nat} {b : Nat → Int64} {f : Nat → Int32} (i : HI0 z g) (ff : ∀ x, f x = 0 ∨ f x = 1) (v : hv g h) (hl : g.st h + 1 + j < z.nbt) (hx : b (g.st h + 1 + j) = Int64.ofNat x) : mp_field (Hs.wm z b f) (Int32.ofNat h) (Int32.ofNat j) = some (Int32.ofNat x) := by
  unfold mp_field
  have e1 : hp_first (Hs.wm z b f) (Int32.ofNat h) = some (Int32.ofNat (g.st h + 1)) := i.first v
  have e2 : hp_bitsAt (Hs.wm z b f) (Int32.ofNat (g.st h + 1 + j)) = some (b (g.st h + 1 + j)) := hp_bitsAt_e (hb_w i.hb ff) hl
  rw [e1, PB.2.1, q_add, e2, PB.2.1, hx, q_32]
theorem setField_w {z : Hs} {g : Gh} {h j x : Nat} {b : Nat → Int64} {f : Nat → Int32} (i : HI0 z g) (ff : ∀ x, f x = 0 ∨ f x = 1) (v : hv g h) (hl : g.st h + 1 + j < z.nbt) (hx : x < 2147483648) : mp_setField (Hs.wm z b f) (Int32.ofNat h) (Int32.ofNat j) (Int32.ofNat x) = some (Hs.wm z (vp_updL b (g.st h + 1 + j) (Int64.ofNat x)) (upd f (g.st h + 1 + j) 0), ()) := by
  unfold mp_setField
  have e1 : hp_first (Hs.wm z b f) (Int32.ofNat h) = some (Int32.ofNat (g.st h + 1)) := i.first v
  have e2 : hp_setNumber (Hs.wm z b f) (Int32.ofNat (g.st h + 1 + j)) (Int64.ofNat x) = some (Hs.wm z (vp_updL b (g.st h + 1 + j) (Int64.ofNat x)) (upd f (g.st h + 1 + j) 0), ()) := hp_setNumber_e (hb_w i.hb ff) hl
  rw [e1, PB.2.1, q_add, q_64 hx, e2, PB.2.2.2.2.1]
theorem handleAt_w {z : Hs} {g : Gh} {o : Go} {a : Ab} {b : Nat → Int64} {f : Nat → Int32} (c : RC z g o a) (ff : ∀ x, f x = 0 ∨ f x = 1) {x : Nat} {w : Wrd} (hx : x < z.nbt) (h : f x = fW w ∧ b x = bW o.ho w) (k : okW a w) : hp_handleAt (Hs.wm z b f) (Int32.ofNat x) = some (Int32.ofNat (hW o w)) := by
  have hk := c.hw k
  have hbb : hb (Hs.wm z b f) := hb_w c.i.hb ff
  cases w with
  | inl v => exact hp_handleAt_0 hbb hx h.1
  | inr p => exact hp_handleAt_1 hbb hx h.1 h.2 (by have := hk.2.1; show o.ho p.1 < _; have e : hW o (.inr p) = o.ho p.1 := rfl; omega) (by have := hk.2.2.1; have e : pW (.inr p) = p.2 := rfl; omega)
theorem freeze_w {z : Hs} {g : Gh} {h : Nat} {b : Nat → Int64} {f : Nat → Int32} (i : HI0 z g) (v : hv g h) : hp_freeze (Hs.wm z b f) (Int32.ofNat h) = some (Hs.wm z (vp_updL b (g.st h) (b (g.st h) ||| 2097152)) f, ()) := by
  obtain ⟨k1, k2, k3, k4, k5⟩ := i.hok v
  have hbb := i.hb
  have d := i.hd h v
  unfold hp_freeze
  show gd (inb (Int32.ofNat h) z.nst) (gd (inb ((z.ast (Int32.ofNat h).toNatClampNeg).toInt32) z.nbt) (gd (inb ((z.ast (Int32.ofNat h).toNatClampNeg).toInt32) z.nbt) (some (Hs.wm z (vp_updL b (((z.ast (Int32.ofNat h).toNatClampNeg).toInt32).toNatClampNeg) ((b ((z.ast (Int32.ofNat h).toNatClampNeg).toInt32).toNatClampNeg) ||| 2097152)) f, ())))) = _
  rw [q_inb k1 (by have := hbb.2.2.2.2.1; omega), q_nat (by omega), d.st, q_32, q_inb k2 (by have := hbb.2.1; omega), q_nat (by omega), gdT, gdT, gdT]
theorem MF_w {z : Hs} {g : Gh} {o : Go} {a : Ab} {n : Nat} {b : Nat → Int64} {f : Nat → Int32} (c : RC z g o a) (on : obj a n) (k4 : a.kd n = 4) (ff : ∀ x, f x = 0 ∨ f x = 1) (e : ∀ j, j < 5 → b (g.st (o.ho n) + 1 + j) = z.abt (g.st (o.ho n) + 1 + j)) : MF (Hs.wm z b f) g o a n := by
  have F := c.mf on k4
  have M := ((c.ob n on).mp k4).1
  exact ⟨F.v, F.b, field_w (j := 1) c.i ff F.v (F.b 1 (by omega)) ((e 1 (by omega)).trans M.w1.2), field_w (j := 2) c.i ff F.v (F.b 2 (by omega)) ((e 2 (by omega)).trans M.w2.2), field_w (j := 3) c.i ff F.v (F.b 3 (by omega)) ((e 3 (by omega)).trans M.w3.2), field_w (j := 4) c.i ff F.v (F.b 4 (by omega)) ((e 4 (by omega)).trans M.w4.2)⟩
theorem freezeTexts_e {z : Hs} {g : Gh} {o : Go} {a : Ab} {n y : Nat} {b : Nat → Int64} {f : Nat → Int32} {kw : Nat → Wrd} (c : RC z g o a) (A : AI a) (on : obj a n) (k4 : a.kd n = 4) (ff : ∀ x, f x = 0 ∨ f x = 1) (hm : ∀ j, j < 5 → b (g.st (o.ho n) + 1 + j) = z.abt (g.st (o.ho n) + 1 + j)) (hy : ∀ i, i < a.nk n → wd g (y + i) ∧ (f (y + i) = fW (kw i) ∧ b (y + i) = bW o.ho (kw i)) ∧ okW a (kw i)) (tk : tkk a n kw) :
    mp_freezeTexts (Hs.wm z b f) (Int32.ofNat (o.ho n)) (Int32.ofNat y) = some (Hs.wm z (frz g.st ((kNr a n kw 0 (a.nk n)).map o.ho) b) f, ()) := by
  have okm := A.mp on k4
  have nk := okm.nk
  have M := ((c.ob n on).mp k4).1
  have ob := c.ob n on
  have sz : g.sz (o.ho n) = 6 := by unfold Gh.sz; rw [ob.kd, k4, M.ln]; rfl
  have loop : ∀ k i fu b', i + k = a.nk n → k < fu → (∀ x, (∀ h, hv g h → g.st h ≠ x) → b' x = b x) → mp_freezeTexts_l2 fu (Int32.ofNat (o.ho n)) (Int32.ofNat y) (Int32.ofNat i) (Hs.wm z b' f) = some (Hs.wm z (frz g.st ((kNr a n kw i k).map o.ho) b') f, ()) := by
    intro k
    induction k with
    | zero =>
      intro i fu b' hi hfu hb'
      obtain ⟨f', rfl⟩ : ∃ f', fu = f' + 1 := ⟨fu - 1, by omega⟩
      have F : MF (Hs.wm z b' f) g o a n := MF_w c on k4 ff (fun j hj => (hb' _ (c.i.wd_ne (a := g.st (o.ho n) + 1 + j) (Or.inr ⟨o.ho n, ob.m, by omega, by omega⟩)).2.2).trans (hm j hj))
      rw [mp_freezeTexts_l2, keyWords_e F okm, PB.2.1, if_pos ((q_le (by omega) (by omega)).mpr (by omega))]
      rfl
    | succ k ih =>
      intro i fu b' hi hfu hb'
      obtain ⟨f', rfl⟩ : ∃ f', fu = f' + 1 := ⟨fu - 1, by omega⟩
      have F : MF (Hs.wm z b' f) g o a n := MF_w c on k4 ff (fun j hj => (hb' _ (c.i.wd_ne (a := g.st (o.ho n) + 1 + j) (Or.inr ⟨o.ho n, ob.m, by omega, by omega⟩)).2.2).trans (hm j hj))
      have e1 : Int32.ofNat i + 1 = Int32.ofNat (i + 1) := q_add i 1
      obtain ⟨y1, y2, y3⟩ := hy i (by omega)
      have wn := c.i.wd_ne y1
      rw [mp_freezeTexts_l2, keyWords_e F okm, PB.2.1, if_neg (fun d => absurd ((q_le (by omega) (by omega)).mp d) (by omega)), q_add, handleAt_w c ff wn.1 ⟨y2.1, (hb' _ wn.2.2).trans y2.2⟩ y3, PB.2.1, isTextual_e F okm (by omega), PB.2.1, e1]
      by_cases ht : (a.nt n).testBit i = true
      · rw [if_pos ht, if_neg ne10]
        obtain ⟨q1, q2⟩ := isTx_t A y3 (tk i (by omega) ht)
        have hw : hW o (kw i) = o.ho (nW (kw i)) := by rw [q1]; rfl
        rw [hw]
        rcases q2 with q2 | ⟨q2, q3⟩
        · rw [q2, c.h0, if_pos (show Int32.ofNat 0 = 0 from rfl), ih (i + 1) f' b' (by omega) (by omega) hb', kNr, if_neg (fun d => d.2 q2), List.nil_append]
        · have obx := c.ob _ q2
          have h1 := c.i.rg _ (List.mem_append_left _ obx.m)
          have h2 := (c.i.hok (Or.inr obx.m)).2.2.2.2
          have q0 : nW (kw i) ≠ 0 := by have := q2.1; omega
          rw [if_neg (q_ne0 (by omega) (by omega)), freeze_w c.i (Or.inr obx.m), PB.2.2.2.2.1, ih (i + 1) f' _ (by omega) (by omega) (by
            intro x hx
            exact (if_neg (fun e => hx _ (Or.inr obx.m) e.symm)).trans (hb' x hx)), kNr, if_pos ⟨ht, q0⟩]
          rfl
      · rw [if_neg ht, if_pos rfl, ih (i + 1) f' b' (by omega) (by omega) hb', kNr, if_neg (fun d => ht d.1), List.nil_append]
  unfold mp_freezeTexts
  rw [show (0 : Int32) = Int32.ofNat 0 from rfl]
  exact loop (a.nk n) 0 FU b (by omega) (by unfold FU; omega) (fun x _ => rfl)
