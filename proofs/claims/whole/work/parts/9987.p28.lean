/-! A table renewed: the abstract memory, the class. -/
theorem use_x {a : Ab} {n cap ol2 : Nat} : AbX a (useA a n cap ol2) := ⟨Nat.le_refl _, fun _ _ => ⟨rfl, rfl, rfl⟩⟩
theorem use_e {a : Ab} {n cap ol2 k : Nat} (h : k ≠ n) : AbE a (useA a n cap ol2) k := ⟨rfl, rfl, rfl, rfl, rfl, rfl, rfl, rfl, updN_o _ _ h, rfl, updN_o _ _ h⟩
theorem AI_use {a : Ab} {n cap ol2 : Nat} (A : AI a) (on : obj a n) (k4 : a.kd n = 4) (h8 : 8 ≤ cap) (tb : cap * (3 + a.nk n + a.nv n) ≤ 131072) (hc : (ens (a.sl n)).length ≤ cap) (hol : ol2 + (1 + cap * (3 + a.nk n + a.nv n)) = a.ol + (1 + a.nc n * (3 + a.nk n + a.nv n))) : AI (useA a n cap ol2) := by
  have X := use_x (a := a) (n := n) (cap := cap) (ol2 := ol2)
  have s1 : (useA a n cap ol2).sl n = (ens (a.sl n)).map some := updN_s _ _ _
  have s2 : (useA a n cap ol2).nc n = cap := updN_s _ _ _
  refine ⟨A.lm, A.eg, A.us, A.md, A.tn, fun i hi => okW_x X (A.rg i hi), ?_, ?_, A.el, A.en, ?_⟩
  · intro k hk
    by_cases hkn : k = n
    · subst hkn
      have okm := A.mp on k4
      refine ⟨(A.ob k on).1, Or.inr (Or.inr ⟨k4, ?_⟩)⟩
      exact ⟨okm.ln, okm.nk, okm.nv, okm.nt, by rw [s2]; exact h8, by rw [s2]; exact tb, by rw [s1, s2, List.length_map]; exact hc, okm.no, by rw [s1, ens_ms]; exact okm.srt, by rw [s1, ens_ms]; exact okm.lt, by rw [s1, ens_ms]; exact fun e he i hi => okW_x X (okm.wd e he i hi), by rw [s1, ens_ms]; exact okm.mk, by rw [s1, ens_ms]; exact fun e he i hi ht => isTx_x X (okm.tx e he i hi ht) (okm.wd e he i (Nat.lt_of_lt_of_le hi (Nat.le_add_right _ _)))⟩
    · exact okO_x X (Nat.le_refl _) (A.ob k hk) hk.2.1 (use_e hkn)
  · have tkn : a.tk n = 6 + (a.nc n * (3 + a.nk n + a.nv n) + 1) := by
      unfold Ab.tk
      rw [if_neg (by omega), if_neg (by omega)]
    have tkn2 : (useA a n cap ol2).tk n = 6 + (cap * (3 + a.nk n + a.nv n) + 1) := by
      unfold Ab.tk
      rw [s2]
      show (if a.kd n = 2 then _ else if a.kd n = 3 then _ else 6 + (cap * (3 + a.nk n + a.nv n) + 1)) = _
      rw [if_neg (by omega), if_neg (by omega)]
    have u3 := sumQ_upd (f := a.tk) (f' := (useA a n cap ol2).tk) (P := a.th) (n := n) (md := a.md) on.1 on.2.1 (fun k hk => (use_e hk).tk)
    rw [if_pos on.2.2, if_pos on.2.2, tkn, tkn2] at u3
    have := A.sum
    show a.us = sumQ (useA a n cap ol2).tk a.th a.md + ol2
    omega
  · intro k hk kk
    by_cases hkn : k = n
    · subst hkn
      rw [s1, ens_ms]
      exact A.cn k hk kk
    · rw [(use_e hkn).sl]
      exact A.cn k hk kk
theorem sizeOf5 {z : Hs} {n : Nat} : hp_sizeOf z 5 (Int32.ofNat n) = some (Int32.ofNat (1 + n)) := by
  unfold hp_sizeOf
  rw [if_neg (by decide), show (1 : Int32) + Int32.ofNat n = Int32.ofNat (1 + n) from q_add 1 n]
theorem renewC {z : Hs} {g : Gh} {o : Go} {a : Ab} {n i p cap T : Nat} (c : RC z g o a) (A : AI a) (hi : i < 16) (gi : a.rg i = .inr (n, p)) (on : obj a n) (k4 : a.kd n = 4) (hT : T = 1 + cap * (3 + a.nk n + a.nv n)) (hcap : cap ≤ 65536) (hTl : T ≤ 300000) (hcnt : (ens (a.sl n)).length ≤ cap) (room : (roomA a T).us + T ≤ a.lm) :
    ∃ c1 z1 t z2 g2 o2, hp_claim z 5 (Int32.ofNat (cap * (3 + a.nk n + a.nv n))) = some (c1, z1, .inr (Int32.ofNat t)) ∧ mp_moveEntries z1 (Int32.ofNat (o.ho n)) (Int32.ofNat t) (Int32.ofNat cap) = some (z2, ()) ∧ RC z2 g2 o2 (useA (orpA (roomA a T) T) n cap ((roomA a T).ol + (1 + a.nc n * (3 + a.nk n + a.nv n)))) ∧ (∀ k, o2.ho k = o.ho k) ∧ c1 + HP z g ≤ HP z2 g2 := by
  have lm := A.lm
  obtain ⟨z0, g0, e1, c0, p1⟩ := RC_room (n := T) c A hTl
  have A1 := AI_room (n := T) A
  obtain ⟨rm1, rm2, rm3, rm4⟩ := roomA_md (a := a) (n := T)
  obtain ⟨on1, E1⟩ := room_ob (T := T) hi gi on
  obtain ⟨b, hb⟩ : ∃ b, b = roomA a T := ⟨_, rfl⟩
  rw [← hb] at c0 A1 rm1 rm2 rm3 rm4 on1 E1 e1 room ⊢
  have k41 : b.kd n = 4 := E1.kd.trans k4
  have md := A1.md
  have tn := A1.tn
  have hT2 : T = 1 + cap * (3 + b.nk n + b.nv n) := by rw [E1.nk, E1.nv]; exact hT
  obtain ⟨c2, z1, t, fl, lh, e2, P⟩ := pl_e (kd := 5) (ln := cap * (3 + b.nk n + b.nv n)) (md := b.md) (nu := 0) c0.hi (by omega) (by omega) (by rw [if_neg (by omega), c0.e, c0.lm, rm2]; omega) c0.md (by omega) (by rw [if_pos rfl])
  have C1 := RC_orph c0 A1 P
  have Pc := P.c
  have Ph := P.hi
  have Pn := P.nh
  rw [← hT2] at C1
  obtain ⟨g1, hg1⟩ : ∃ g1, g1 = gnew g0 t 5 (cap * (3 + b.nk n + b.nv n)) 0 fl lh := ⟨_, rfl⟩
  rw [← hg1] at C1 Pc
  obtain ⟨o1, ho1⟩ : ∃ o1, o1 = o.s_ow (updN o.ow t 0) := ⟨_, rfl⟩
  rw [← ho1] at C1
  have A2 : AI (orpA b T) := AI_orph A1 (by rw [rm2]; exact room)
  have mt : t ∈ g1.hs := by rw [hg1]; exact List.mem_append_right _ (List.mem_singleton.mpr rfl)
  have owt : o1.ow t = 0 := by rw [ho1]; exact updN_s _ _ _
  have kd5 : g1.kd t = 5 := by rw [hg1]; exact updN_s _ _ _
  have lnt : g1.ln t = cap * (3 + b.nk n + b.nv n) := by rw [hg1]; exact updN_s _ _ _
  have nut : g1.nu t = 0 := by rw [hg1]; exact updN_s _ _ _
  have stt : g1.st t = g0.e := by rw [hg1]; exact updN_s _ _ _
  have szt : g1.sz t = 1 + cap * (3 + b.nk n + b.nv n) := by unfold Gh.sz; rw [kd5, lnt]; rfl
  have hoe : ∀ k, o1.ho k = o.ho k := fun k => by rw [ho1]; rfl
  have on2 : obj (orpA b T) n := on1
  have hcnt2 : (ens ((orpA b T).sl n)).length ≤ cap := by
    show (ens (b.sl n)).length ≤ cap
    rw [E1.sl]
    exact hcnt
  obtain ⟨b2, f2, m1, m2, m3, m4⟩ := moveLoop (cap := cap) C1 A2 on2 k41 mt owt szt hcnt2 (by
    intro j j1 j2
    rw [stt]
    exact (Ph (g0.e + j) (by omega) (by rw [if_neg (by omega)]; omega)).2)
  have C2 := RC_orw C1 A2 mt owt m2 m3
  obtain ⟨z8, u1, C3, u2, u3⟩ := RC_use (cap := cap) (ol2 := b.ol + (1 + a.nc n * (3 + a.nk n + a.nv n))) C2 A2 on2 k41 mt owt kd5 nut lnt hcap (by
    show b.ol + (1 + a.nc n * (3 + a.nk n + a.nv n)) + (1 + cap * (3 + b.nk n + b.nv n)) = b.ol + T + (1 + b.nc n * (3 + b.nk n + b.nv n))
    rw [E1.nk, E1.nv, E1.nc]
    omega) m4
  refine ⟨c2 + 0, z1, t, z8, g1, _, ?_, ?_, C3, hoe, ?_⟩
  · unfold hp_claim
    rw [sizeOf5, PB.2.1, ← hT, e1, if_pos room, PB.2.2.2.2.2.2.1, ← E1.nk, ← E1.nv]
    rw [show hp_place z0 5 (Int32.ofNat (cap * (3 + b.nk n + b.nv n))) = _ from e2, PB.2.2.2.2.2.2.2.2.1]
    rfl
  · have F1 := C1.mf on2 k41
    have okm1 := A2.mp on2 k41
    have hs : g1.st (o1.ta n) + 1 = sla g1 o1 (orpA b T) n 0 := by
      unfold sla
      rw [Nat.zero_mul, Nat.add_zero]
    have hs2 : g1.st (o1.ta n) + 1 + ((orpA b T).sl n).length * (3 + (orpA b T).nk n + (orpA b T).nv n) = sla g1 o1 (orpA b T) n ((orpA b T).sl n).length := rfl
    unfold mp_moveEntries
    rw [← hoe n, C1.i.first (Or.inr mt), PB.2.1, slotWords_e F1 okm1, PB.2.1, slotsEnd_e C1 on2 k41, PB.2.1, slotsStart_e C1 on2 k41, PB.2.1, hs2, hs]
    exact m1.trans u1
  · have e3 : HP z8 g1 = HP z1 g1 := by
      unfold HP
      rw [u2, u3]
      rfl
    rw [e3]
    omega
