/-! The collection of the class. -/
def rfs (z : Hs) (a h : Nat) : Prop := z.arf a = 1 ∧ ∃ p, p < 8192 ∧ z.abt a = Int64.ofNat (h * 8192 + p)
def okr (z : Hs) (g : Gh) (a : Nat) : Prop := z.arf a = 0 ∨ (∃ h, hv g h ∧ rfs z a h)
theorem rfs_u {z : Hs} {a h k : Nat} (hh : h < 262144) (hk : k < 262144) (r : rfs z a h) (s : rfs z a k) : h = k := by
  obtain ⟨_, p, hp, e⟩ := r
  obtain ⟨_, q, hq, e'⟩ := s
  have := (l_eq (by omega) (by omega)).mp (e.symm.trans e')
  omega
def Qu (z : Hs) (g : Gh) (l : List Nat) : Prop :=
  (z.qd = Int32.ofNat l.length) ∧
  (∀ i, (h : i < l.length) → z.aqu i = Int64.ofNat (l[i])) ∧
  (∀ h, z.arc h = if h ∈ l then 1 else 0) ∧
  (l.Nodup) ∧
  (∀ h, h ∈ l → h ∈ g.hs)
theorem Qu.qd {z : Hs} {g : Gh} {l : List Nat} (hyp : Qu z g l) : z.qd = Int32.ofNat l.length := hyp.1
theorem Qu.aq {z : Hs} {g : Gh} {l : List Nat} (hyp : Qu z g l) : ∀ i, (h : i < l.length) → z.aqu i = Int64.ofNat (l[i]) := hyp.2.1
theorem Qu.rc {z : Hs} {g : Gh} {l : List Nat} (hyp : Qu z g l) : ∀ h, z.arc h = if h ∈ l then 1 else 0 := hyp.2.2.1
theorem Qu.nd {z : Hs} {g : Gh} {l : List Nat} (hyp : Qu z g l) : l.Nodup := hyp.2.2.2.1
theorem Qu.sb {z : Hs} {g : Gh} {l : List Nat} (hyp : Qu z g l) : ∀ h, h ∈ l → h ∈ g.hs := hyp.2.2.2.2

theorem HI0.qr {z : Hs} {g : Gh} (i : HI0 z g) (q : Int32) (r : Nat → Int32) (u : Nat → Int64) : HI0 (Hs.wqu (Hs.wrc (Hs.sqd z q) r) u) g := i
theorem Qu.len {z : Hs} {g : Gh} {l : List Nat} (i : HI0 z g) (q : Qu z g l) : l.length ≤ g.lh := nodup_len _ _ q.nd (fun h m => i.rg h (List.mem_append_left _ (q.sb h m)))
theorem rf_loop {g : Gh} {fr n : Nat} : ∀ k i fu, i + k = n → k < fu → ∀ (z : Hs) (l : List Nat), HI0 z g → fr + n ≤ z.nbt → (∀ j, j < n → okr z g (fr + j)) → Qu z g l →
    ∃ q r u l', hp_reachFrom_l2 fu (Int32.ofNat fr) (Int32.ofNat n) (Int32.ofNat (fr + i)) z = some (Hs.wqu (Hs.wrc (Hs.sqd z q) r) u, ()) ∧ Qu (Hs.wqu (Hs.wrc (Hs.sqd z q) r) u) g l' ∧ (∃ t, l' = l ++ t) ∧
      (∀ h, h ∈ l' → h ∈ l ∨ ∃ j, j < n ∧ rfs z (fr + j) h) ∧ (∀ j, i ≤ j → j < n → ∀ h, h ≠ 0 → h < 262144 → rfs z (fr + j) h → h ∈ l') := by
  intro k
  induction k with
  | zero =>
    intro i fu hi hfu z l hI hn ok hq
    obtain ⟨m, rfl⟩ : ∃ m, fu = m + 1 := ⟨fu - 1, by omega⟩
    have hb := hI.hb
    have b2 := hb.2.1
    refine ⟨z.qd, z.arc, z.aqu, l, ?_, hq, ⟨[], by simp⟩, fun h m => Or.inl m, ?_⟩
    · rw [hp_reachFrom_l2, q_add, if_pos ((q_le (by omega) (by omega)).mpr (by omega))]
      rfl
    · intro j h1 h2
      omega
  | succ k ih =>
    intro i fu hi hfu z l hI hn ok hq
    obtain ⟨m, rfl⟩ : ∃ m, fu = m + 1 := ⟨fu - 1, by omega⟩
    have hb := hI.hb
    have b1 := hb.1
    have b2 := hb.2.1
    have e1 : Int32.ofNat (fr + i) + 1 = Int32.ofNat (fr + (i + 1)) := q_add (fr + i) 1
    have hskip : (∀ h, h ≠ 0 → h < 262144 → rfs z (fr + i) h → h ∈ l) → hp_reachFrom_l2 (m + 1) (Int32.ofNat fr) (Int32.ofNat n) (Int32.ofNat (fr + i)) z = hp_reachFrom_l2 m (Int32.ofNat fr) (Int32.ofNat n) (Int32.ofNat (fr + i) + 1) z → ∃ q r u l', hp_reachFrom_l2 (m + 1) (Int32.ofNat fr) (Int32.ofNat n) (Int32.ofNat (fr + i)) z = some (Hs.wqu (Hs.wrc (Hs.sqd z q) r) u, ()) ∧ Qu (Hs.wqu (Hs.wrc (Hs.sqd z q) r) u) g l' ∧ (∃ t, l' = l ++ t) ∧
      (∀ h, h ∈ l' → h ∈ l ∨ ∃ j, j < n ∧ rfs z (fr + j) h) ∧ (∀ j, i ≤ j → j < n → ∀ h, h ≠ 0 → h < 262144 → rfs z (fr + j) h → h ∈ l') := by
      intro hs he
      obtain ⟨q, r, u, l', a1, a2, a3, a4, a5⟩ := ih (i + 1) m (by omega) (by omega) z l hI hn ok hq
      refine ⟨q, r, u, l', by rw [he, e1]; exact a1, a2, a3, a4, ?_⟩
      intro j h1 h2 h h3 h4 h5
      by_cases hj : j = i
      · subst hj
        obtain ⟨t, rfl⟩ := a3
        exact List.mem_append_left _ (hs h h3 h4 h5)
      · exact a5 j (by omega) h2 h h3 h4 h5
    have hc : ¬ (Int32.ofNat fr + Int32.ofNat n ≤ Int32.ofNat (fr + i)) := by
      rw [q_add]
      exact fun c => absurd ((q_le (by omega) (by omega)).mp c) (by omega)
    rcases ok i (by omega) with f0 | ⟨h, v, rf⟩
    · refine hskip ?_ ?_
      · intro h _ _ r
        exact absurd (f0.symm.trans r.1) (by decide)
      · rw [hp_reachFrom_l2, if_neg hc, q_inb (by omega) (by omega), q_nat (by omega), f0]
        rfl
    · obtain ⟨k1, k2, k3, k4, k5⟩ := hI.hok v
      obtain ⟨f1, p, hp, w⟩ := rf
      have hh := hp_handleAt_1 hb (show fr + i < z.nbt by omega) f1 w (by omega) hp
      have hun : hp_reachFrom_l2 (m + 1) (Int32.ofNat fr) (Int32.ofNat n) (Int32.ofNat (fr + i)) z = _ := rfl
      by_cases h0 : h = 0
      · subst h0
        refine hskip ?_ ?_
        · intro k hk hk2 r
          exact absurd (rfs_u hk2 (by omega) r ⟨f1, p, hp, w⟩) hk
        · rw [hp_reachFrom_l2, if_neg hc, q_inb (by omega) (by omega), q_nat (by omega), f1, if_neg ne10, hh]
          rfl
      · have hm : h ∈ g.hs := by
          rcases v with v | v
          · exact absurd v h0
          · exact v
        have hz : ¬ (Int32.ofNat h = 0) := fun c => h0 ((q_eq (b := 0) (by omega) (by omega)).mp c)
        by_cases hl : h ∈ l
        · refine hskip ?_ ?_
          · intro k hk hk2 r
            have := rfs_u hk2 (by omega) r ⟨f1, p, hp, w⟩
            rw [this]; exact hl
          · rw [hp_reachFrom_l2, if_neg hc, q_inb (by omega) (by omega), q_nat (by omega), f1, if_neg ne10, hh, PB.2.1, if_neg hz, q_inb (by have := hb.2.2.1; omega) (by have := hb.2.2.2.2.1; have := hb.2.2.1; omega), q_nat (by omega), hq.rc, if_pos hl]
            rfl
        · have nd : (l ++ [h]).Nodup := by
            rw [List.nodup_append]
            refine ⟨hq.nd, (by simp), ?_⟩
            intro a ha b hb2
            rw [List.mem_singleton] at hb2
            intro c
            rw [c, hb2] at ha
            exact hl ha
          have sb : ∀ k, k ∈ l ++ [h] → k ∈ g.hs := by
            intro k hk
            rcases List.mem_append.mp hk with hk | hk
            · exact hq.sb k hk
            · rw [List.mem_singleton] at hk; rw [hk]; exact hm
          have len := nodup_len _ _ nd (fun k mk => hI.rg k (List.mem_append_left _ (sb k mk)))
          rw [List.length_append, List.length_singleton] at len
          have ls := hI.ls
          have b5 := hb.2.2.2.2.1
          have hq2 : Qu (Hs.wqu (Hs.wrc (Hs.sqd z (z.qd + 1)) (upd z.arc h 1)) (vp_updL z.aqu l.length (Int64.ofNat h))) g (l ++ [h]) := by
            refine ⟨?_, ?_, ?_, nd, sb⟩
            · show z.qd + 1 = _
              rw [hq.qd, List.length_append, List.length_singleton]
              exact q_add l.length 1
            · intro j hj
              show vp_updL z.aqu l.length (Int64.ofNat h) j = _
              unfold vp_updL
              rw [List.length_append, List.length_singleton] at hj
              by_cases hjl : j = l.length
              · subst hjl
                rw [if_pos rfl]
                simp
              · rw [if_neg hjl, hq.aq j (by omega), List.getElem_append_left (by omega)]
            · intro k
              show upd z.arc h 1 k = _
              unfold upd
              by_cases hk : k = h
              · rw [if_pos hk, if_pos (by rw [hk]; simp)]
              · rw [if_neg hk, hq.rc]
                by_cases hkl : k ∈ l
                · rw [if_pos hkl, if_pos (List.mem_append_left _ hkl)]
                · rw [if_neg hkl, if_neg (by simp [hkl, hk])]
          obtain ⟨q, r, u, l', a1, a2, a3, a4, a5⟩ := ih (i + 1) m (by omega) (by omega) _ (l ++ [h]) (hI.qr (z.qd + 1) (upd z.arc h 1) (vp_updL z.aqu l.length (Int64.ofNat h))) hn ok hq2
          refine ⟨q, r, u, l', ?_, a2, ?_, ?_, ?_⟩
          · rw [hp_reachFrom_l2, if_neg hc, q_inb (by omega) (by omega), q_nat (by omega), f1, if_neg ne10, hh, PB.2.1, if_neg hz, q_inb (by have := hb.2.2.1; omega) (by have := hb.2.2.2.2.1; have := hb.2.2.1; omega), q_nat (by omega), hq.rc, if_neg hl, hq.qd, q_inb (by have := hb.2.2.2.1; omega) (by have := hb.2.2.2.2.1; have := hb.2.2.2.1; omega), q_nat (by omega), nar1, q_64 (by omega), e1]
            rw [hq.qd] at a1
            exact a1
          · obtain ⟨t, rfl⟩ := a3
            exact ⟨h :: t, by simp⟩
          · intro k hk
            rcases a4 k hk with c | c
            · rcases List.mem_append.mp c with c | c
              · exact Or.inl c
              · rw [List.mem_singleton] at c
                rw [c]
                exact Or.inr ⟨i, by omega, f1, p, hp, w⟩
            · exact Or.inr c
          · intro j h1 h2 k h3 h4 h5
            by_cases hj : j = i
            · subst hj
              have := rfs_u h4 (by omega) h5 ⟨f1, p, hp, w⟩
              obtain ⟨t, rfl⟩ := a3
              rw [this]
              simp
            · exact a5 j (by omega) h2 k h3 h4 h5
def suc (z : Hs) (g : Gh) (h k : Nat) : Prop := g.kd h ≠ 3 ∧ k ≠ 0 ∧ k < 262144 ∧ ∃ i, i < g.ln h ∧ rfs z (g.st h + 1 + i) k
def root (z : Hs) (k : Nat) : Prop := k ≠ 0 ∧ k < 262144 ∧ ∃ i, i < 16 ∧ rfs z i k
def reaC (z : Hs) (g : Gh) (k : Nat) : Prop := ∀ P : Nat → Prop, (∀ k, root z k → P k) → (∀ h k, P h → suc z g h k → P k) → P k
def OKW (z : Hs) (g : Gh) : Prop := (∀ i, i < 16 → okr z g i) ∧ ∀ h, h ∈ g.hs → reaC z g h → g.kd h ≠ 3 → ∀ i, i < g.ln h → okr z g (g.st h + 1 + i)
theorem HsEta (z : Hs) : Hs.wqu (Hs.wrc (Hs.sqd z z.qd) z.arc) z.aqu = z := rfl
theorem co_loop {g : Gh} : ∀ k i fu, i + k = g.lh → k < fu → ∀ (z : Hs) (l : List Nat), HI0 z g → OKW z g → Qu z g l → i ≤ l.length →
    (∀ j, (hj : j < l.length) → j < i → ∀ k, suc z g (l[j]) k → k ∈ l) → (∀ k, root z k → k ∈ l) → (∀ h, h ∈ l → reaC z g h) →
    ∃ q r u l', hp_collection_l14 fu (Int32.ofNat i) z = hp_collection_j70 (Hs.wqu (Hs.wrc (Hs.sqd z q) r) u) ∧ Qu (Hs.wqu (Hs.wrc (Hs.sqd z q) r) u) g l' ∧ ∀ h, h ∈ l' ↔ reaC z g h := by
  intro k
  induction k with
  | zero =>
    intro i fu hi hfu z l hI hO hq hil hsuc hroot hre
    obtain ⟨m, rfl⟩ : ∃ m, fu = m + 1 := ⟨fu - 1, by omega⟩
    have hlen := hq.len hI
    have ls := hI.ls
    have b5 := hI.hb.2.2.2.2.1
    refine ⟨z.qd, z.arc, z.aqu, l, ?_, hq, ?_⟩
    · rw [hp_collection_l14, hq.qd, if_pos ((q_le (by omega) (by omega)).mpr (by omega)), ← hq.qd, HsEta]
    · intro h
      refine ⟨hre h, fun r => r (· ∈ l) hroot ?_⟩
      intro a b ha hs
      obtain ⟨j, hj, e⟩ := List.getElem_of_mem ha
      rw [← e] at hs
      exact hsuc j hj (by omega) b hs
  | succ k ih =>
    intro i fu hi hfu z l hI hO hq hil hsuc hroot hre
    obtain ⟨m, rfl⟩ : ∃ m, fu = m + 1 := ⟨fu - 1, by omega⟩
    have hlen := hq.len hI
    have ls := hI.ls
    have hb := hI.hb
    have b5 := hb.2.2.2.2.1
    by_cases hc : l.length ≤ i
    · refine ⟨z.qd, z.arc, z.aqu, l, ?_, hq, ?_⟩
      · rw [hp_collection_l14, hq.qd, if_pos ((q_le (by omega) (by omega)).mpr (by omega)), ← hq.qd, HsEta]
      · intro h
        refine ⟨hre h, fun r => r (· ∈ l) hroot ?_⟩
        intro a b ha hs
        obtain ⟨j, hj, e⟩ := List.getElem_of_mem ha
        rw [← e] at hs
        exact hsuc j hj (by omega) b hs
    · have hil2 : i < l.length := by omega
      have hm := hq.sb _ (List.getElem_mem hil2)
      have v : hv g (l[i]) := Or.inr hm
      obtain ⟨k1, k2, k3, k4, k5⟩ := hI.hok v
      have e1 : Int32.ofNat i + 1 = Int32.ofNat (i + 1) := q_add i 1
      have hhead : hp_collection_l14 (m + 1) (Int32.ofNat i) z = if Int32.ofNat (g.kd (l[i])) = 3 then hp_collection_l14 m (Int32.ofNat (i + 1)) z else bw (hp_reachFrom z (Int32.ofNat (g.st (l[i]) + 1)) (Int32.ofNat (g.ln (l[i])))) (fun z10 _ => hp_collection_l14 m (Int32.ofNat (i + 1)) z10) := by
        rw [hp_collection_l14, hq.qd, if_neg (fun c => absurd ((q_le (by omega) (by omega)).mp c) hc), hI.lh, if_neg (fun c => absurd ((q_le (by omega) (by omega)).mp c) (by omega)), q_inb (by have := hb.2.2.2.1; omega) (by have := hb.2.2.2.1; omega), q_nat (by omega), hq.aq i hil2, q_32, hI.header v, PB.2.1, hp_kindIn_e k3, PB.2.1, hI.first v, PB.2.1, hI.length v, PB.2.1, e1]
        rfl
      by_cases h3 : g.kd (l[i]) = 3
      · obtain ⟨q, r, u, l', a1, a2, a3⟩ := ih (i + 1) m (by omega) (by omega) z l hI hO hq (by omega) (by
          intro j hj hji k hs
          by_cases hj2 : j = i
          · subst hj2
            exact absurd h3 hs.1
          · exact hsuc j hj (by omega) k hs) hroot hre
        refine ⟨q, r, u, l', ?_, a2, a3⟩
        rw [hhead, h3, if_pos (show Int32.ofNat 3 = 3 from rfl)]
        exact a1
      · have t := Til_mem hI.til hm
        have sz : g.sz (l[i]) = 1 + g.ln (l[i]) := by unfold Gh.sz; rw [if_neg h3]
        have eb := hI.eb
        obtain ⟨q, r, u, l', a1, a2, ⟨t', a3⟩, a4, a5⟩ := rf_loop (g := g) (fr := g.st (l[i]) + 1) (n := g.ln (l[i])) (g.ln (l[i])) 0 FU (by omega) (by have := (hI.hd _ v).l1; unfold FU; omega) z l hI (by omega) (hO.2 _ hm (hre _ (List.getElem_mem hil2)) h3) hq
        subst a3
        obtain ⟨q', r', u', l', c1, c2, c3⟩ := ih (i + 1) m (by omega) (by omega) _ _ (hI.qr q r u) hO a2 (by rw [List.length_append]; omega) (by
          intro j hj hji k hs
          by_cases hj2 : j = i
          · subst hj2
            rw [List.getElem_append_left hil2] at hs
            obtain ⟨_, s1, s2, i', s3, s4⟩ := hs
            exact a5 i' (by omega) s3 k s1 s2 s4
          · rw [List.getElem_append_left (show j < l.length by omega)] at hs
            exact List.mem_append_left _ (hsuc j (by omega) (by omega) k hs)) (fun k hk => List.mem_append_left _ (hroot k hk)) (by
          intro h hh
          rcases a4 h hh with c | ⟨j, c1, c2⟩
          · exact hre h c
          · intro P hP1 hP2
            have hmh := a2.sb h hh
            have rg := hI.rg h (List.mem_append_left _ hmh)
            refine hP2 (l[i]) h (hre _ (List.getElem_mem hil2) P hP1 hP2) ⟨h3, by omega, by omega, j, c1, c2⟩)
        refine ⟨q', r', u', l', ?_, c2, c3⟩
        rw [hhead, if_neg (show ¬ (Int32.ofNat (g.kd (l[i])) = 3) from q_nek 3 (by have := k3.2.2.2.1; omega) (by omega) h3)]
        unfold hp_reachFrom
        rw [Nat.add_zero] at a1
        rw [a1]
        exact c1
