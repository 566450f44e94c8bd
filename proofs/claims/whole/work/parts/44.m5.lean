/-! Moving together. -/
def updN {α : Type} (f : Nat → α) (k : Nat) (x : α) : Nat → α := fun j => if j = k then x else f j
theorem updN_s {α : Type} (f : Nat → α) (k : Nat) (x : α) : updN f k x k = x := if_pos rfl
theorem updN_o {α : Type} (f : Nat → α) {k j : Nat} (x : α) (h : j ≠ k) : updN f k x j = f j := if_neg h
theorem f32_64 (x : Int32) : x.toInt64.toInt32 = x := by simp
def Hs.mt (z : Hs) (x : Int32) (r : Nat → Int32) (s : Nat → Int64) (b : Nat → Int64) (f : Nat → Int32) : Hs := Hs.wm (Hs.wst (Hs.wrc (Hs.sfh z x) r) s) b f
theorem flt_perm (l fl : List Nat) (R : Nat → Bool) : (l.filter R ++ ((l.filter (fun h => !R h)).reverse ++ fl)).Perm (l ++ fl) := by
  rw [← List.append_assoc]
  exact ((List.Perm.append_left _ (List.reverse_perm _)).trans (List.filter_append_perm R l)).append_right _
/-- what the loop needs of the blocks that are left -/
def Mv (z : Hs) (g : Gh) (R : Nat → Bool) (t : List Nat) (k a : Nat) : Prop :=
  (hb z) ∧
  (z.en = Int32.ofNat g.e) ∧
  (g.e ≤ z.nbt) ∧
  (k ≤ a) ∧
  (Til g.st g.sz a t g.e) ∧
  (t.Nodup) ∧
  (∀ h, h ∈ t → z.abt (g.st h) = Int64.ofNat (hdr (g.nu h) (g.ln h) (g.fr h) (g.kd h) h) ∧ hdok (g.nu h) (g.ln h) (g.fr h) (g.kd h) h ∧ h < z.nst) ∧
  (∀ h, h ∈ t → z.arc h = if R h = true then 1 else 0)
theorem Mv.hb {z : Hs} {g : Gh} {R : Nat → Bool} {t : List Nat} {k a : Nat} (hyp : Mv z g R t k a) : hb z := hyp.1
theorem Mv.en {z : Hs} {g : Gh} {R : Nat → Bool} {t : List Nat} {k a : Nat} (hyp : Mv z g R t k a) : z.en = Int32.ofNat g.e := hyp.2.1
theorem Mv.eb {z : Hs} {g : Gh} {R : Nat → Bool} {t : List Nat} {k a : Nat} (hyp : Mv z g R t k a) : g.e ≤ z.nbt := hyp.2.2.1
theorem Mv.ka {z : Hs} {g : Gh} {R : Nat → Bool} {t : List Nat} {k a : Nat} (hyp : Mv z g R t k a) : k ≤ a := hyp.2.2.2.1
theorem Mv.til {z : Hs} {g : Gh} {R : Nat → Bool} {t : List Nat} {k a : Nat} (hyp : Mv z g R t k a) : Til g.st g.sz a t g.e := hyp.2.2.2.2.1
theorem Mv.nd {z : Hs} {g : Gh} {R : Nat → Bool} {t : List Nat} {k a : Nat} (hyp : Mv z g R t k a) : t.Nodup := hyp.2.2.2.2.2.1
theorem Mv.hd {z : Hs} {g : Gh} {R : Nat → Bool} {t : List Nat} {k a : Nat} (hyp : Mv z g R t k a) : ∀ h, h ∈ t → z.abt (g.st h) = Int64.ofNat (hdr (g.nu h) (g.ln h) (g.fr h) (g.kd h) h) ∧ hdok (g.nu h) (g.ln h) (g.fr h) (g.kd h) h ∧ h < z.nst := hyp.2.2.2.2.2.2.1
theorem Mv.rc {z : Hs} {g : Gh} {R : Nat → Bool} {t : List Nat} {k a : Nat} (hyp : Mv z g R t k a) : ∀ h, h ∈ t → z.arc h = if R h = true then 1 else 0 := hyp.2.2.2.2.2.2.2

def Mw (z : Hs) (g : Gh) (R : Nat → Bool) (t : List Nat) (k : Nat) (x : Int32) (r : Nat → Int32) (s : Nat → Int64) (b : Nat → Int64) (f : Nat → Int32) (ns : Nat → Nat) (k2 : Nat) : Prop :=
  (Til ns g.sz k (t.filter R) k2) ∧
  (k2 ≤ g.e) ∧
  (∀ a, a < k → b a = z.abt a ∧ f a = z.arf a) ∧
  (∀ a, f a = 0 ∨ f a = 1) ∧
  (∀ h, h ∈ t → R h = true → s h = Int64.ofNat (ns h)) ∧
  (∀ h, h ∈ t → R h = true → ∀ j, j < g.sz h → b (ns h + j) = z.abt (g.st h + j) ∧ f (ns h + j) = z.arf (g.st h + j)) ∧
  (∀ h, ¬ h ∈ t → s h = z.ast h) ∧
  (∀ h, ¬ h ∈ t → r h = z.arc h) ∧
  (∀ h, h ∈ t → r h = 0) ∧
  (∀ fl, Chn z.ast z.fh fl → (∀ h, h ∈ fl → ¬ h ∈ t) → Chn s x ((t.filter (fun h => !R h)).reverse ++ fl))
theorem Mw.til {z : Hs} {g : Gh} {R : Nat → Bool} {t : List Nat} {k : Nat} {x : Int32} {r : Nat → Int32} {s : Nat → Int64} {b : Nat → Int64} {f : Nat → Int32} {ns : Nat → Nat} {k2 : Nat} (hyp : Mw z g R t k x r s b f ns k2) : Til ns g.sz k (t.filter R) k2 := hyp.1
theorem Mw.ke {z : Hs} {g : Gh} {R : Nat → Bool} {t : List Nat} {k : Nat} {x : Int32} {r : Nat → Int32} {s : Nat → Int64} {b : Nat → Int64} {f : Nat → Int32} {ns : Nat → Nat} {k2 : Nat} (hyp : Mw z g R t k x r s b f ns k2) : k2 ≤ g.e := hyp.2.1
theorem Mw.lo {z : Hs} {g : Gh} {R : Nat → Bool} {t : List Nat} {k : Nat} {x : Int32} {r : Nat → Int32} {s : Nat → Int64} {b : Nat → Int64} {f : Nat → Int32} {ns : Nat → Nat} {k2 : Nat} (hyp : Mw z g R t k x r s b f ns k2) : ∀ a, a < k → b a = z.abt a ∧ f a = z.arf a := hyp.2.2.1
theorem Mw.ff {z : Hs} {g : Gh} {R : Nat → Bool} {t : List Nat} {k : Nat} {x : Int32} {r : Nat → Int32} {s : Nat → Int64} {b : Nat → Int64} {f : Nat → Int32} {ns : Nat → Nat} {k2 : Nat} (hyp : Mw z g R t k x r s b f ns k2) : ∀ a, f a = 0 ∨ f a = 1 := hyp.2.2.2.1
theorem Mw.st {z : Hs} {g : Gh} {R : Nat → Bool} {t : List Nat} {k : Nat} {x : Int32} {r : Nat → Int32} {s : Nat → Int64} {b : Nat → Int64} {f : Nat → Int32} {ns : Nat → Nat} {k2 : Nat} (hyp : Mw z g R t k x r s b f ns k2) : ∀ h, h ∈ t → R h = true → s h = Int64.ofNat (ns h) := hyp.2.2.2.2.1
theorem Mw.wd {z : Hs} {g : Gh} {R : Nat → Bool} {t : List Nat} {k : Nat} {x : Int32} {r : Nat → Int32} {s : Nat → Int64} {b : Nat → Int64} {f : Nat → Int32} {ns : Nat → Nat} {k2 : Nat} (hyp : Mw z g R t k x r s b f ns k2) : ∀ h, h ∈ t → R h = true → ∀ j, j < g.sz h → b (ns h + j) = z.abt (g.st h + j) ∧ f (ns h + j) = z.arf (g.st h + j) := hyp.2.2.2.2.2.1
theorem Mw.so {z : Hs} {g : Gh} {R : Nat → Bool} {t : List Nat} {k : Nat} {x : Int32} {r : Nat → Int32} {s : Nat → Int64} {b : Nat → Int64} {f : Nat → Int32} {ns : Nat → Nat} {k2 : Nat} (hyp : Mw z g R t k x r s b f ns k2) : ∀ h, ¬ h ∈ t → s h = z.ast h := hyp.2.2.2.2.2.2.1
theorem Mw.ro {z : Hs} {g : Gh} {R : Nat → Bool} {t : List Nat} {k : Nat} {x : Int32} {r : Nat → Int32} {s : Nat → Int64} {b : Nat → Int64} {f : Nat → Int32} {ns : Nat → Nat} {k2 : Nat} (hyp : Mw z g R t k x r s b f ns k2) : ∀ h, ¬ h ∈ t → r h = z.arc h := hyp.2.2.2.2.2.2.2.1
theorem Mw.rt {z : Hs} {g : Gh} {R : Nat → Bool} {t : List Nat} {k : Nat} {x : Int32} {r : Nat → Int32} {s : Nat → Int64} {b : Nat → Int64} {f : Nat → Int32} {ns : Nat → Nat} {k2 : Nat} (hyp : Mw z g R t k x r s b f ns k2) : ∀ h, h ∈ t → r h = 0 := hyp.2.2.2.2.2.2.2.2.1
theorem Mw.chn {z : Hs} {g : Gh} {R : Nat → Bool} {t : List Nat} {k : Nat} {x : Int32} {r : Nat → Int32} {s : Nat → Int64} {b : Nat → Int64} {f : Nat → Int32} {ns : Nat → Nat} {k2 : Nat} (hyp : Mw z g R t k x r s b f ns k2) : ∀ fl, Chn z.ast z.fh fl → (∀ h, h ∈ fl → ¬ h ∈ t) → Chn s x ((t.filter (fun h => !R h)).reverse ++ fl) := hyp.2.2.2.2.2.2.2.2.2

theorem mv_loop {g : Gh} {R : Nat → Bool} : ∀ (t : List Nat) (k a fu : Nat) (z : Hs), t.length < fu → Mv z g R t k a →
    ∃ x r s b f ns k2, hp_moveTogether_l8 fu (Int32.ofNat k) (Int32.ofNat a) z = some (Hs.sen (Hs.mt z x r s b f) (Int32.ofNat k2), ()) ∧ Mw z g R t k x r s b f ns k2 := by
  intro t
  induction t with
  | nil =>
    intro k a fu z hfu M
    obtain ⟨m, rfl⟩ : ∃ m, fu = m + 1 := ⟨fu - 1, by simp at hfu; omega⟩
    have e : a = g.e := M.til
    have hb := M.hb
    have b2 := hb.2.1
    have eb := M.eb
    have ka := M.ka
    refine ⟨z.fh, z.arc, z.ast, z.abt, z.arf, fun _ => 0, k, ?_, ?_⟩
    · rw [hp_moveTogether_l8, M.en, if_pos ((q_le (by omega) (by omega)).mpr (by omega))]
      rfl
    · refine ⟨rfl, by omega, fun _ _ => ⟨rfl, rfl⟩, hb.2.2.2.2.2, ?_, ?_, fun _ _ => rfl, fun _ _ => rfl, ?_, ?_⟩
      · intro h hm; cases hm
      · intro h hm; cases hm
      · intro h hm; cases hm
      · intro fl hc _; exact hc
  | cons h t ih =>
    intro k a fu z hfu M
    obtain ⟨m, rfl⟩ : ∃ m, fu = m + 1 := ⟨fu - 1, by simp at hfu; omega⟩
    have hb := M.hb
    obtain ⟨b1, b2, b3, b4, b5, b6⟩ := hb
    have eb := M.eb
    have ka := M.ka
    have ha : g.st h = a := M.til.1
    have hT : Til g.st g.sz (a + g.sz h) t g.e := M.til.2
    have hle := Til_le hT
    obtain ⟨d1, d2, d3⟩ := M.hd h (List.mem_cons_self ..)
    have d2' := d2
    obtain ⟨o1, o2, o3, o4, o5⟩ := d2'
    have s1 : 1 ≤ g.sz h := by unfold Gh.sz; omega
    have nd := List.nodup_cons.mp M.nd
    rw [ha] at d1
    have hhead : hp_moveTogether_l8 (m + 1) (Int32.ofNat k) (Int32.ofNat a) z = if z.arc h = 0 then hp_moveTogether_l8 m (Int32.ofNat k) (Int32.ofNat (a + g.sz h)) (Hs.wst (Hs.sfh z (Int32.ofNat h)) (vp_updL z.ast h z.fh.toInt64)) else if a ≤ k then hp_moveTogether_l8 m (Int32.ofNat (k + g.sz h)) (Int32.ofNat (a + g.sz h)) (Hs.wrc (Hs.wst z (vp_updL z.ast h (Int64.ofNat k))) (upd z.arc h 0)) else bw (hp_copyWords (Hs.wrc (Hs.wst z (vp_updL z.ast h (Int64.ofNat k))) (upd z.arc h 0)) (Int32.ofNat k) (Int32.ofNat a) (Int32.ofNat (g.sz h))) (fun z14 _ => hp_moveTogether_l8 m (Int32.ofNat (k + g.sz h)) (Int32.ofNat (a + g.sz h)) z14) := by
      have e1 : 1 + (if g.kd h = 3 then (g.ln h + 7) / 8 else g.ln h) = g.sz h := rfl
      rw [hp_moveTogether_l8, M.en, if_neg (fun c => absurd ((q_le (by omega) (by omega)).mp c) (by omega)), q_inb (show a < z.nbt by omega) (by omega), q_nat (show a < 2147483648 by omega), d1, hp_kindIn_e d2, hp_lengthIn_e d2, hdr_h d2, q_inb (show h < z.nrc by omega) (by omega), q_nat (show h < 2147483648 by omega)]
      rw [q_inb d3 (by omega), nar0, q_64 (show k < 2147483648 by omega)]
      simp only [PB, hp_sizeOf_e o4 o2, e1, q_add, hp_moveTogether_j90, q_le (show a < 2147483648 by omega) (show k < 2147483648 by omega)]
    by_cases hR : R h = true
    · have hrc : z.arc h = 1 := by rw [M.rc h (List.mem_cons_self ..), if_pos hR]
      rw [hrc, if_neg ne10] at hhead
      have hz1 : ∃ b f, hp_moveTogether_l8 (m + 1) (Int32.ofNat k) (Int32.ofNat a) z = hp_moveTogether_l8 m (Int32.ofNat (k + g.sz h)) (Int32.ofNat (a + g.sz h)) (Hs.wm (Hs.wrc (Hs.wst z (vp_updL z.ast h (Int64.ofNat k))) (upd z.arc h 0)) b f) ∧ (∀ c, f c = 0 ∨ f c = 1) ∧ (∀ c, c < k → b c = z.abt c ∧ f c = z.arf c) ∧ (∀ j, j < g.sz h → b (k + j) = z.abt (a + j) ∧ f (k + j) = z.arf (a + j)) ∧ (∀ c, k + g.sz h ≤ c → b c = z.abt c ∧ f c = z.arf c) := by
        by_cases hak : a ≤ k
        · have : a = k := by omega
          subst this
          refine ⟨z.abt, z.arf, ?_, b6, fun _ _ => ⟨rfl, rfl⟩, fun _ _ => ⟨rfl, rfl⟩, fun _ _ => ⟨rfl, rfl⟩⟩
          rw [hhead, if_pos (Nat.le_refl _)]
          rfl
        · rw [if_neg hak, hp_copyWords_e (z := Hs.wrc (Hs.wst z (vp_updL z.ast h (Int64.ofNat k))) (upd z.arc h 0)) ⟨b1, b2, b3, b4, b5, b6⟩ (show k + g.sz h ≤ z.nbt by omega) (show a + g.sz h ≤ z.nbt by omega), PB.2.2.2.2.1] at hhead
          refine ⟨_, _, hhead, fun c => cpyf b6 _ _ _ _, ?_, ?_, ?_⟩
          · intro c hc
            exact ⟨if_neg (by omega), if_neg (by omega)⟩
          · intro j hj
            refine ⟨(if_pos (by omega)).trans ?_, (if_pos (by omega)).trans ?_⟩
            · show z.abt (a + (k + j - k)) = _
              rw [show k + j - k = j from by omega]
            · show z.arf (a + (k + j - k)) = _
              rw [show k + j - k = j from by omega]
          · intro c hc
            exact ⟨if_neg (by omega), if_neg (by omega)⟩
      obtain ⟨b, f, hz, hf, hlo, hmi, hhi⟩ := hz1
      obtain ⟨x, r, s, b', f', ns, k2, e, W⟩ := ih (k + g.sz h) (a + g.sz h) m _ (by simp at hfu; omega) (show Mv (Hs.wm (Hs.wrc (Hs.wst z (vp_updL z.ast h (Int64.ofNat k))) (upd z.arc h 0)) b f) g R t (k + g.sz h) (a + g.sz h) from
        ⟨⟨b1, b2, b3, b4, b5, hf⟩, M.en, M.eb, by omega, hT, nd.2, by
          intro h' hm
          obtain ⟨c1, c2, c3⟩ := M.hd h' (List.mem_cons_of_mem _ hm)
          have := Til_mem hT hm
          exact ⟨(hhi _ (by omega)).1.trans c1, c2, c3⟩, by
          intro h' hm
          have : h' ≠ h := fun c => nd.1 (c ▸ hm)
          show upd z.arc h 0 h' = _
          unfold upd
          rw [if_neg this]
          exact M.rc h' (List.mem_cons_of_mem _ hm)⟩)
      refine ⟨x, r, s, b', f', updN ns h k, k2, hz.trans e, ?_, W.ke, ?_, W.ff, ?_, ?_, ?_, ?_, ?_, ?_⟩
      · rw [List.filter_cons_of_pos hR]
        refine ⟨updN_s _ _ _, ?_⟩
        refine Til_congr ?_ W.til
        intro y hy
        have : y ≠ h := fun c => nd.1 (c ▸ (List.mem_filter.mp hy).1)
        exact ⟨if_neg this, rfl⟩
      · intro c hc
        have w := W.lo c (by omega)
        have w2 := hlo c hc
        exact ⟨w.1.trans w2.1, w.2.trans w2.2⟩
      · intro y hy hRy
        by_cases hyh : y = h
        · subst hyh
          rw [W.so y nd.1, updN_s]
          exact if_pos rfl
        · rw [updN_o _ _ hyh]
          exact W.st y ((List.mem_cons.mp hy).resolve_left hyh) hRy
      · intro y hy hRy j hj
        by_cases hyh : y = h
        · subst hyh
          rw [updN_s, ha]
          have w := W.lo (k + j) (by omega)
          have w2 := hmi j hj
          exact ⟨w.1.trans w2.1, w.2.trans w2.2⟩
        · rw [updN_o _ _ hyh]
          have hyt := (List.mem_cons.mp hy).resolve_left hyh
          have w := W.wd y hyt hRy j hj
          have tm := Til_mem hT hyt
          have w2 := hhi (g.st y + j) (by omega)
          exact ⟨w.1.trans w2.1, w.2.trans w2.2⟩
      · intro y hy
        have hyh : y ≠ h := fun c => hy (c ▸ List.mem_cons_self ..)
        rw [W.so y (fun c => hy (List.mem_cons_of_mem _ c))]
        exact if_neg hyh
      · intro y hy
        have hyh : y ≠ h := fun c => hy (c ▸ List.mem_cons_self ..)
        rw [W.ro y (fun c => hy (List.mem_cons_of_mem _ c))]
        exact if_neg hyh
      · intro y hy
        by_cases hyh : y = h
        · subst hyh
          rw [W.ro y nd.1]
          exact if_pos rfl
        · exact W.rt y ((List.mem_cons.mp hy).resolve_left hyh)
      · intro fl hc hd
        rw [List.filter_cons_of_neg (by simp [hR])]
        refine W.chn fl ?_ (fun y hy c => hd y hy (List.mem_cons_of_mem _ c))
        refine Chn_congr ?_ hc
        intro y hy
        exact if_neg (show ¬ y = h from fun c => hd y hy (by rw [c]; exact List.mem_cons_self ..))
    · have hrc : z.arc h = 0 := by rw [M.rc h (List.mem_cons_self ..), if_neg hR]
      rw [hrc, if_pos rfl] at hhead
      obtain ⟨x, r, s, b', f', ns, k2, e, W⟩ := ih k (a + g.sz h) m _ (by simp at hfu; omega) (show Mv (Hs.wst (Hs.sfh z (Int32.ofNat h)) (vp_updL z.ast h z.fh.toInt64)) g R t k (a + g.sz h) from
        ⟨⟨b1, b2, b3, b4, b5, b6⟩, M.en, M.eb, by omega, hT, nd.2, fun h' hm => M.hd h' (List.mem_cons_of_mem _ hm), fun h' hm => M.rc h' (List.mem_cons_of_mem _ hm)⟩)
      refine ⟨x, r, s, b', f', ns, k2, hhead.trans e, ?_, W.ke, W.lo, W.ff, ?_, ?_, ?_, ?_, ?_, ?_⟩
      · rw [List.filter_cons_of_neg hR]
        exact W.til
      · intro y hy hRy
        have hyh : y ≠ h := fun c => hR (c ▸ hRy)
        exact W.st y ((List.mem_cons.mp hy).resolve_left hyh) hRy
      · intro y hy hRy
        have hyh : y ≠ h := fun c => hR (c ▸ hRy)
        exact W.wd y ((List.mem_cons.mp hy).resolve_left hyh) hRy
      · intro y hy
        have hyh : y ≠ h := fun c => hy (c ▸ List.mem_cons_self ..)
        rw [W.so y (fun c => hy (List.mem_cons_of_mem _ c))]
        exact if_neg hyh
      · intro y hy
        exact W.ro y (fun c => hy (List.mem_cons_of_mem _ c))
      · intro y hy
        by_cases hyh : y = h
        · subst hyh
          rw [W.ro y nd.1]
          exact hrc
        · exact W.rt y ((List.mem_cons.mp hy).resolve_left hyh)
      · intro fl hc hd
        rw [List.filter_cons_of_pos (by simp [hR])]
        rw [List.reverse_cons, List.append_assoc]
        refine W.chn (h :: fl) ?_ ?_
        · refine ⟨rfl, ?_⟩
          show Chn _ (vp_updL z.ast h z.fh.toInt64 h).toInt32 fl
          rw [show vp_updL z.ast h z.fh.toInt64 h = z.fh.toInt64 from if_pos rfl, f32_64]
          refine Chn_congr ?_ hc
          intro y hy
          exact if_neg (show ¬ y = h from fun c => hd y hy (by rw [c]; exact List.mem_cons_self ..))
        · intro y hy c
          rcases List.mem_cons.mp hy with e | e
          · exact nd.1 (e ▸ c)
          · exact hd y e (List.mem_cons_of_mem _ c)
/-- the collection: what is left, in the same order, with its words -/
def Col (z z2 : Hs) (g g2 : Gh) : Prop :=
  (HI0 z2 g2) ∧
  (∀ h, z2.arc h = 0) ∧
  (∀ h, h ∈ g2.hs ↔ h ∈ g.hs ∧ reaC z g h) ∧
  (∃ R : Nat → Bool, g2.hs = g.hs.filter R ∧ ∀ h, h ∈ g.hs → (R h = true ↔ reaC z g h)) ∧
  (g2.kd = g.kd ∧ g2.fr = g.fr ∧ g2.ln = g.ln ∧ g2.nu = g.nu ∧ g2.lm = g.lm) ∧
  (∀ i, i < 16 → z2.abt i = z.abt i ∧ z2.arf i = z.arf i) ∧
  (∀ h, h ∈ g2.hs → ∀ j, j < g.sz h → z2.abt (g2.st h + j) = z.abt (g.st h + j) ∧ z2.arf (g2.st h + j) = z.arf (g.st h + j)) ∧
  (g2.e ≤ g.e) ∧
  (z2.md = z.md) ∧
  (z2.co = z.co + 1) ∧
  (z2.gb = z.gb + Int32.ofNat (g.e - g2.e)) ∧
  (z2.al = z.al) ∧
  (z2.nbt = z.nbt ∧ z2.nst = z.nst)
theorem Col.i {z z2 : Hs} {g g2 : Gh} (hyp : Col z z2 g g2) : HI0 z2 g2 := hyp.1
theorem Col.rc {z z2 : Hs} {g g2 : Gh} (hyp : Col z z2 g g2) : ∀ h, z2.arc h = 0 := hyp.2.1
theorem Col.hs {z z2 : Hs} {g g2 : Gh} (hyp : Col z z2 g g2) : ∀ h, h ∈ g2.hs ↔ h ∈ g.hs ∧ reaC z g h := hyp.2.2.1
theorem Col.hf {z z2 : Hs} {g g2 : Gh} (hyp : Col z z2 g g2) : ∃ R : Nat → Bool, g2.hs = g.hs.filter R ∧ ∀ h, h ∈ g.hs → (R h = true ↔ reaC z g h) := hyp.2.2.2.1
theorem Col.kd {z z2 : Hs} {g g2 : Gh} (hyp : Col z z2 g g2) : g2.kd = g.kd ∧ g2.fr = g.fr ∧ g2.ln = g.ln ∧ g2.nu = g.nu ∧ g2.lm = g.lm := hyp.2.2.2.2.1
theorem Col.rg {z z2 : Hs} {g g2 : Gh} (hyp : Col z z2 g g2) : ∀ i, i < 16 → z2.abt i = z.abt i ∧ z2.arf i = z.arf i := hyp.2.2.2.2.2.1
theorem Col.wd {z z2 : Hs} {g g2 : Gh} (hyp : Col z z2 g g2) : ∀ h, h ∈ g2.hs → ∀ j, j < g.sz h → z2.abt (g2.st h + j) = z.abt (g.st h + j) ∧ z2.arf (g2.st h + j) = z.arf (g.st h + j) := hyp.2.2.2.2.2.2.1
theorem Col.le {z z2 : Hs} {g g2 : Gh} (hyp : Col z z2 g g2) : g2.e ≤ g.e := hyp.2.2.2.2.2.2.2.1
theorem Col.md {z z2 : Hs} {g g2 : Gh} (hyp : Col z z2 g g2) : z2.md = z.md := hyp.2.2.2.2.2.2.2.2.1
theorem Col.co {z z2 : Hs} {g g2 : Gh} (hyp : Col z z2 g g2) : z2.co = z.co + 1 := hyp.2.2.2.2.2.2.2.2.2.1
theorem Col.gb {z z2 : Hs} {g g2 : Gh} (hyp : Col z z2 g g2) : z2.gb = z.gb + Int32.ofNat (g.e - g2.e) := hyp.2.2.2.2.2.2.2.2.2.2.1
theorem Col.al {z z2 : Hs} {g g2 : Gh} (hyp : Col z z2 g g2) : z2.al = z.al := hyp.2.2.2.2.2.2.2.2.2.2.2.1
theorem Col.nb {z z2 : Hs} {g g2 : Gh} (hyp : Col z z2 g g2) : z2.nbt = z.nbt ∧ z2.nst = z.nst := hyp.2.2.2.2.2.2.2.2.2.2.2.2

theorem col_e {z : Hs} {g : Gh} (i : HI0 z g) (rc : ∀ h, z.arc h = 0) (O : OKW z g) : ∃ z2 g2, hp_collection z = some (z2, Int32.ofNat (g.e - g2.e)) ∧ Col z z2 g g2 := by
  have hb := i.hb
  have b2 := hb.2.1
  have eb := i.eb
  have lm := i.lm
  have h64 := i.bl.1
  have hst := i.h0.1
  have t17 := Til_le i.til
  have e0 : (0 : Int32) = Int32.ofNat 0 := rfl
  have e16 : (16 : Int32) = Int32.ofNat 16 := rfl
  have i1 : HI0 (Hs.sqd z 0) g := i
  have q1 : Qu (Hs.sqd z 0) g [] := ⟨rfl, fun _ h => absurd h (by simp), fun h => (rc h).trans (if_neg (by simp)).symm, List.nodup_nil, fun h m => by cases m⟩
  obtain ⟨q, r, u, l, a1, a2, a3, a4, a5⟩ := rf_loop (g := g) (fr := 0) (n := 16) 16 0 FU (by omega) (by unfold FU; omega) (Hs.sqd z 0) [] i1 (show 0 + 16 ≤ z.nbt by omega) (by intro j hj; rw [Nat.zero_add]; exact O.1 j hj) q1
  have hroot : ∀ k, root z k → k ∈ l := by
    intro k ⟨k1, k2, j, k3, k4⟩
    exact a5 j (by omega) k3 k k1 k2 (by rw [Nat.zero_add]; exact k4)
  have hre : ∀ h, h ∈ l → reaC z g h := by
    intro h hh P hP1 hP2
    rcases a4 h hh with c | ⟨j, c1, c2⟩
    · cases c
    · have rg := i.rg h (List.mem_append_left _ (a2.sb h hh))
      have ls := i.ls
      have b5 := hb.2.2.2.2.1
      rw [Nat.zero_add] at c2
      exact hP1 h ⟨by omega, by omega, j, c1, c2⟩
  obtain ⟨q2, r2, u2, l2, c1, c2, c3⟩ := co_loop (g := g) g.lh 0 FU (by omega) (by have := i.ls; have := hb.2.2.2.2.1; unfold FU; omega) _ l (i1.qr q r u) O a2 (by omega) (by intro j _ hj; omega) hroot hre
  have c1 : hp_collection_l14 FU (Int32.ofNat 0) (Hs.wqu (Hs.wrc (Hs.sqd (Hs.sqd z 0) q) r) u) = hp_collection_j70 (Hs.wqu (Hs.wrc (Hs.sqd z q2) r2) u2) := c1
  have c2 : Qu (Hs.wqu (Hs.wrc (Hs.sqd z q2) r2) u2) g l2 := c2
  have c3 : ∀ h, h ∈ l2 ↔ reaC z g h := c3
  have hR : ∀ h, (decide (h ∈ l2) = true) ↔ reaC z g h := fun h => by rw [decide_eq_true_eq]; exact c3 h
  have i2 : HI0 (Hs.wqu (Hs.wrc (Hs.sqd z q2) r2) u2) g := i
  obtain ⟨x, r3, s3, b3, f3, ns, k2, m1, W⟩ := mv_loop (g := g) (R := fun h => decide (h ∈ l2)) g.hs 17 17 FU (Hs.wqu (Hs.wrc (Hs.sqd z q2) r2) u2) (by
      have h1 : g.hs.length ≤ g.lh := by have := i.le; rw [List.length_append] at this; omega
      have := i.ls
      have := hb.2.2.2.2.1
      unfold FU
      omega) ⟨i2.hb, i2.en, i2.eb, Nat.le_refl _, i.til, (List.nodup_append.mp i.nd).1, by
      intro h hm
      have hk := i.hok (Or.inr hm)
      exact ⟨(i.hd h (Or.inr hm)).hd, hk.2.2.1, hk.1⟩, by
      intro h hm
      rw [c2.rc h]
      by_cases hl : h ∈ l2
      · rw [if_pos hl, if_pos (by simp [hl])]
      · rw [if_neg hl, if_neg (by simp [hl])]⟩
  have hk2 := W.ke
  have hk17 := Til_le W.til
  have hmem : ∀ h, h ∈ g.hs.filter (fun h => decide (h ∈ l2)) ↔ h ∈ g.hs ∧ h ∈ l2 := by
    intro h; rw [List.mem_filter, decide_eq_true_eq]
  refine ⟨Hs.sgb (Hs.sco (Hs.sen (Hs.mt (Hs.wqu (Hs.wrc (Hs.sqd z q2) r2) u2) x r3 s3 b3 f3) (Int32.ofNat k2)) (z.co + 1)) (z.gb + Int32.ofNat (g.e - k2)), ((((((g.s_hs (g.hs.filter (fun h => decide (h ∈ l2)))).s_fl ((g.hs.filter (fun h => !decide (h ∈ l2))).reverse ++ g.fl)).s_st (fun h => if h ∈ g.hs.filter (fun h => decide (h ∈ l2)) then ns h else g.st h)).s_e k2))), ?_, ?_⟩
  · unfold hp_collection hp_reachFrom
    rw [e0, e16] 
    rw [Nat.zero_add] at a1
    rw [show Hs.sqd z (Int32.ofNat 0) = Hs.sqd z 0 from rfl, a1, PB.2.2.2.2.1, c1]
    unfold hp_collection_j70 hp_moveTogether
    have e17 : (17 : Int32) = Int32.ofNat 17 := rfl
    rw [e17]
    rw [m1, PB.2.2.2.2.1]
    show some (Hs.sgb (Hs.sco _ (z.co + 1)) (z.gb + (z.en - Int32.ofNat k2)), z.en - Int32.ofNat k2) = _
    rw [i.en, q_sub hk2]
    rfl
  · have hn0 : ∀ h, h ∈ g.hs → h ≠ 0 := fun h m c => by have := i.rg h (List.mem_append_left _ m); omega
    refine ⟨⟨i.lm, i.lim, rfl, show k2 ≤ 17 + g.lm from by have := i.el; omega, show k2 ≤ z.nbt from by omega, i.rb, i.bl, i.rc, i.qu, i.sl, W.ff, ?_, ?_, ?_, i.lh, i.ls, ?_, ?_, ?_, ?_⟩, ?_, ?_, ?_, ⟨rfl, rfl, rfl, rfl, rfl⟩, ?_, ?_, hk2, rfl, rfl, rfl, rfl, ⟨rfl, rfl⟩⟩
    · refine Til_congr ?_ W.til
      intro h hm
      exact ⟨if_pos hm, rfl⟩
    · intro h v
      rcases v with rfl | v
      · have d := i.hd 0 (Or.inl rfl)
        have hn : ¬ (0 ∈ g.hs.filter (fun h => decide (h ∈ l2))) := fun c => hn0 0 ((hmem 0).mp c).1 rfl
        have hst2 : (if 0 ∈ g.hs.filter (fun h => decide (h ∈ l2)) then ns 0 else g.st 0) = 16 := (if_neg hn).trans hst
        refine ⟨?_, ?_, d.k1, d.k5, d.f1, d.l1, d.n1⟩
        · show s3 0 = Int64.ofNat (if 0 ∈ g.hs.filter (fun h => decide (h ∈ l2)) then ns 0 else g.st 0)
          rw [hst2, W.so 0 (fun c => hn0 0 c rfl)]
          have := d.st
          rw [hst] at this
          exact this
        · show b3 (if 0 ∈ g.hs.filter (fun h => decide (h ∈ l2)) then ns 0 else g.st 0) = _
          rw [hst2, (W.lo 16 (by omega)).1]
          have := d.hd
          rw [hst] at this
          exact this
      · have hm : h ∈ g.hs.filter (fun h => decide (h ∈ l2)) := v
        have hm2 := List.mem_filter.mp hm
        have d := i.hd h (Or.inr hm2.1)
        refine ⟨?_, ?_, d.k1, d.k5, d.f1, d.l1, d.n1⟩
        · show s3 h = Int64.ofNat (if h ∈ g.hs.filter (fun h => decide (h ∈ l2)) then ns h else g.st h)
          rw [if_pos hm]
          exact W.st h hm2.1 hm2.2
        · show b3 (if h ∈ g.hs.filter (fun h => decide (h ∈ l2)) then ns h else g.st h) = _
          rw [if_pos hm]
          have s1 : 0 < g.sz h := by unfold Gh.sz; omega
          have := (W.wd h hm2.1 hm2.2 0 s1).1
          rw [Nat.add_zero, Nat.add_zero] at this
          exact this.trans d.hd
    · have h0 := i.h0
      have hn : ¬ (0 ∈ g.hs.filter (fun h => decide (h ∈ l2))) := fun c => hn0 0 ((hmem 0).mp c).1 rfl
      exact ⟨(if_neg hn).trans h0.1, h0.2⟩
    · exact W.chn g.fl i.chn (by
        intro h hf hs
        exact (List.nodup_append.mp i.nd).2.2 h hs h hf rfl)
    · exact (flt_perm g.hs g.fl _).nodup_iff.mpr i.nd
    · intro h hm
      refine i.rg h ?_
      rcases List.mem_append.mp hm with c | c
      · exact List.mem_append_left _ (List.mem_filter.mp c).1
      · rcases List.mem_append.mp c with c | c
        · exact List.mem_append_left _ (List.mem_filter.mp (List.mem_reverse.mp c)).1
        · exact List.mem_append_right _ c
    · exact (flt_perm g.hs g.fl _).length_eq.trans i.le
    · intro h
      by_cases hm : h ∈ g.hs
      · exact W.rt h hm
      · show r3 h = 0
        rw [W.ro h hm]
        show r2 h = 0
        have := c2.rc h
        rw [if_neg (fun c => hm (c2.sb h c))] at this
        exact this
    · intro h
      rw [← c3 h]
      exact hmem h
    · exact ⟨_, rfl, fun h _ => hR h⟩
    · intro j hj
      exact W.lo j (by omega)
    · intro h hm j hj
      have hm : h ∈ g.hs.filter (fun h => decide (h ∈ l2)) := hm
      have hm2 := List.mem_filter.mp hm
      have := W.wd h hm2.1 hm2.2 j hj
      show b3 ((if h ∈ g.hs.filter (fun h => decide (h ∈ l2)) then ns h else g.st h) + j) = _ ∧ f3 ((if h ∈ g.hs.filter (fun h => decide (h ∈ l2)) then ns h else g.st h) + j) = _
      rw [if_pos hm]
      exact this
