/-! Writing a new text: words of the class, bytes of the reference. -/
def cut (F : Nat → Nat) (k : Nat) : Nat → Nat := fun i => if i < k then F i else 0
def wrt (b : Ab) (N : Nat) (F : Nat → Nat) : Ab := b.s_bs (updN b.bs N F)
theorem updN_2 {α : Type} (f : Nat → α) (k : Nat) (x y : α) : updN (updN f k x) k y = updN f k y := by
  funext j
  unfold updN
  by_cases h : j = k
  · rw [if_pos h, if_pos h]
  · rw [if_neg h, if_neg h, if_neg h]
theorem updN_id {α : Type} (f : Nat → α) (k : Nat) : updN f k (f k) = f := by
  funext j
  unfold updN
  by_cases h : j = k
  · rw [if_pos h, h]
  · rw [if_neg h]
theorem wrt_wrt (b : Ab) (N : Nat) (F G : Nat → Nat) : (wrt b N F).s_bs (updN (wrt b N F).bs N G) = wrt b N G := by
  show (b.s_bs (updN (updN b.bs N F) N G)) = b.s_bs (updN b.bs N G)
  rw [updN_2]
theorem AI_wrt {b : Ab} {N : Nat} {F : Nat → Nat} (A : AI b) (on : obj b N) (k3 : b.kd N = 3) (h1 : ∀ i, F i < 256) (h2 : ∀ i, b.ln N ≤ i → F i = 0) (k : Nat) : AI (wrt b N (cut F k)) := by
  refine AI_bs A on k3 ?_ ?_
  · intro i
    unfold cut
    split
    · exact h1 i
    · omega
  · intro i hi
    unfold cut
    split
    · exact h2 i hi
    · rfl
theorem wr_step {z : Hs} {g : Gh} {o : Go} {b : Ab} {N w : Nat} {F : Nat → Nat} (c : RC z g o (wrt b N (cut F (8 * w)))) (A : AI (wrt b N (cut F (8 * w)))) (on : obj b N) (k3 : b.kd N = 3) (hw : w < (b.ln N + 7) / 8) : ∃ z2, hp_setNumber z (Int32.ofNat (g.st (o.ho N) + 1 + w)) (Int64.ofNat (pk F w)) = some (z2, ()) ∧ RC z2 g o (wrt b N (cut F (8 * (w + 1)))) ∧ z2.nbt = z.nbt ∧ z2.nst = z.nst := by
  have ob := c.ob N on
  have T := ob.tx k3
  have Tl : g.ln (o.ho N) = b.ln N := T.1
  have wn := c.i.wd_ne (a := g.st (o.ho N) + 1 + w) (Or.inr ⟨o.ho N, ob.m, by omega, by unfold Gh.sz; rw [ob.kd, show (wrt b N (cut F (8 * w))).kd N = 3 from k3, Tl, if_pos rfl]; omega⟩)
  refine ⟨_, hp_setNumber_e c.i.hb wn.1, ?_, rfl, rfl⟩
  have C2 := RC_bs (n := N) (b := vp_updL z.abt (g.st (o.ho N) + 1 + w) (Int64.ofNat (pk F w))) (f := upd z.arf (g.st (o.ho N) + 1 + w) 0) (w := cut F (8 * (w + 1))) c A on k3 (by
    intro x
    unfold upd
    split
    · exact Or.inl rfl
    · exact c.i.fl x) (by
    intro x hx
    have : x ≠ g.st (o.ho N) + 1 + w := hx w hw
    exact ⟨if_neg this, if_neg this⟩) (by
    intro i hi
    by_cases hiw : i = w
    · subst hiw
      refine (if_pos rfl).trans ?_
      rw [pk_cg (f := cut F (8 * (i + 1))) (g := F) (fun j hj => if_pos (by omega))]
    · have : g.st (o.ho N) + 1 + i ≠ g.st (o.ho N) + 1 + w := by omega
      refine (if_neg this).trans ?_
      have := T.2 i hi
      rw [this]
      have e : (wrt b N (cut F (8 * w))).bs N = cut F (8 * w) := updN_s _ _ _
      rw [e]
      rw [pk_cg (f := cut F (8 * w)) (g := cut F (8 * (w + 1))) ?_]
      intro j hj
      unfold cut
      by_cases hlt : i < w
      · rw [if_pos (by omega), if_pos (by omega)]
      · rw [if_neg (by omega), if_neg (by omega)])
  rw [wrt_wrt] at C2
  exact C2
theorem cut_all {F : Nat → Nat} {k : Nat} (h : ∀ i, k ≤ i → F i = 0) : cut F k = F := by
  funext i
  unfold cut
  by_cases hi : i < k
  · rw [if_pos hi]
  · rw [if_neg hi, h i (by omega)]
theorem cut_0 (F : Nat → Nat) : cut F 0 = fun _ => 0 := by
  funext i
  exact if_neg (by omega)
theorem wrt_0 {a : Ab} {ln : Nat} {F : Nat → Nat} : wrt (newA a 3 ln 0 0 0) (a.md + 1) (cut F 0) = newA a 3 ln 0 0 0 := by
  rw [cut_0]
  have e : (newA a 3 ln 0 0 0).bs (a.md + 1) = fun _ => 0 := newA_n.2.2.2.2.2.1
  have e2 : wrt (newA a 3 ln 0 0 0) (a.md + 1) (fun _ => 0) = (newA a 3 ln 0 0 0).s_bs (updN (newA a 3 ln 0 0 0).bs (a.md + 1) ((newA a 3 ln 0 0 0).bs (a.md + 1))) := by rw [e]; rfl
  rw [e2, updN_id]
  rfl
/-- one byte of the reference -/
theorem wr_byte {m : Ms} {q : Gm} {b : Ab} {N k : Nat} {F : Nat → Nat} (R : RM m q (wrt b N (cut F k))) (on : obj b N) (k3 : b.kd N = 3) (hk : k < b.ln N) : RM (Ms.wby m (upd m.aby (q.sr N + k) (vp_nar .byte (Int32.ofNat (F k))))) q (wrt b N (cut F (k + 1))) := by
  have om := (R.ob N on).tx k3
  have R2 := RM_bs (n := N) (t := upd m.aby (q.sr N + k) (vp_nar .byte (Int32.ofNat (F k)))) (w := cut F (k + 1)) R on k3 (by
    intro x hx
    exact if_neg (hx k hk)) (by
    intro i hi
    by_cases hik : i = k
    · subst hik
      refine (if_pos rfl).trans ?_
      rw [show cut F (i + 1) i = F i from if_pos (by omega)]
    · refine (if_neg (by omega)).trans ((om.2.2 i hi).trans ?_)
      have e : (wrt b N (cut F k)).bs N = cut F k := updN_s _ _ _
      rw [e]
      have e2 : cut F k i = cut F (k + 1) i := by
        unfold cut
        by_cases hlt : i < k
        · rw [if_pos hlt, if_pos (by omega)]
        · rw [if_neg hlt, if_neg (by omega)]
      rw [e2])
  rw [wrt_wrt] at R2
  exact R2
/-- what a collection for room leaves of a text in a register -/
theorem room_tx {a : Ab} {T i n : Nat} (A : AI a) (hi : i < 16) (e : a.rg i = .inr (n, 0)) (t : txn a n) : txn (roomA a T) n ∧ (roomA a T).rg i = .inr (n, 0) ∧ tb (roomA a T) n = tb a n ∧ tl (roomA a T) n = tl a n ∧ n ≤ a.md := by
  have hle : n ≤ a.md := by
    rcases t with t | ⟨t, _⟩
    · omega
    · exact t.2.1
  unfold roomA
  split
  · exact ⟨t, e, rfl, rfl, hle⟩
  · refine ⟨?_, e, rfl, rfl, hle⟩
    rcases t with t | ⟨t, k3⟩
    · exact Or.inl t
    · refine Or.inr ⟨⟨t.1, t.2.1, ?_⟩, k3⟩
      exact thR_iff.mpr ⟨t, fun P h1 _ => h1 n ⟨by have := t.1; omega, i, hi, 0, e⟩⟩
theorem wr_tx {b : Ab} {n N : Nat} (t : txn b n) (hn : n ≠ N) (F : Nat → Nat) : txn (wrt b N F) n ∧ tb (wrt b N F) n = tb b n ∧ tl (wrt b N F) n = tl b n := by
  refine ⟨t, ?_, rfl⟩
  funext i
  unfold tb
  have e : (wrt b N F).bs n = b.bs n := updN_o _ _ hn
  rw [e]
/-- the bytes of a join -/
def jnF (f1 f2 : Nat → Nat) (S : Nat) : Nat → Nat := fun i => f1 i + (if i < S then 0 else f2 (i - S))
theorem jnF_lt {b : Ab} {n1 n2 : Nat} (A : AI b) (t1 : txn b n1) (t2 : txn b n2) (i : Nat) : jnF (tb b n1) (tb b n2) (tl b n1) i < 256 := by
  unfold jnF
  have h1 := tb_lt (i := i) A t1
  by_cases h : i < tl b n1
  · rw [if_pos h]; omega
  · rw [if_neg h, tb_0 A t1 (by omega)]
    have := tb_lt (i := i - tl b n1) A t2
    omega
theorem jnF_0 {b : Ab} {n1 n2 : Nat} (A : AI b) (t1 : txn b n1) (t2 : txn b n2) (i : Nat) (hi : tl b n1 + tl b n2 ≤ i) : jnF (tb b n1) (tb b n2) (tl b n1) i = 0 := by
  unfold jnF
  rw [if_neg (by omega), tb_0 A t1 (by omega), tb_0 A t2 (by omega)]
/-- one word of a join -/
theorem jn_word {z : Hs} {g : Gh} {o : Go} {b : Ab} {n1 n2 w : Nat} (c : RC z g o b) (A : AI b) (t1 : txn b n1) (t2 : txn b n2) (hw : w < 100000) : ∃ v, tx_wordOf z (Int32.ofNat (o.ho n1)) (Int32.ofNat w) = some (Int64.ofNat (pk (tb b n1) w)) ∧ tx_eightFrom z (Int32.ofNat (o.ho n2)) (8 * Int32.ofNat w - Int32.ofNat (tl b n1)) = some v ∧ Int64.ofNat (pk (tb b n1) w) ||| v = Int64.ofNat (pk (jnF (tb b n1) (tb b n2) (tl b n1)) w) := by
  have l1 := tl_le A t1
  have e8 : 8 * Int32.ofNat w = Int32.ofNat (8 * w) := q_mul 8 w
  have b1 : ∀ i, tb b n1 i < 256 := fun i => tb_lt A t1
  have b2 : ∀ i, tb b n2 i < 256 := fun i => tb_lt A t2
  refine ⟨Int64.ofNat (pk (fun i => if i < tl b n1 then 0 else tb b n2 (i - tl b n1)) w), wordOf_e c A t1 (by omega), ?_, ?_⟩
  · rw [e8]
    by_cases hc : tl b n1 ≤ 8 * w
    · rw [q_sub hc, eight_e c A t2 (by omega)]
      rw [pk_sh (f := fun k => tb b n2 (8 * w - tl b n1 + k)) (g := fun i => if i < tl b n1 then 0 else tb b n2 (i - tl b n1)) (w := w)]
      intro j hj
      show tb b n2 (8 * w - tl b n1 + j) = if 8 * w + j < tl b n1 then 0 else tb b n2 (8 * w + j - tl b n1)
      rw [if_neg (by omega), show 8 * w + j - tl b n1 = 8 * w - tl b n1 + j from by omega]
    · rw [q_subn (by omega), eight_n c A t2 (by omega) (by omega)]
      rw [pk_sh (f := fun k => if k < tl b n1 - 8 * w then 0 else tb b n2 (k - (tl b n1 - 8 * w))) (g := fun i => if i < tl b n1 then 0 else tb b n2 (i - tl b n1)) (w := w)]
      intro j hj
      show (if j < tl b n1 - 8 * w then 0 else tb b n2 (j - (tl b n1 - 8 * w))) = if 8 * w + j < tl b n1 then 0 else tb b n2 (8 * w + j - tl b n1)
      by_cases hj2 : 8 * w + j < tl b n1
      · rw [if_pos hj2, if_pos (by omega)]
      · rw [if_neg hj2, if_neg (by omega), show 8 * w + j - tl b n1 = j - (tl b n1 - 8 * w) from by omega]
  · rw [l_or]
    rw [pk_or b1 ?_ (tl b n1) w (fun i hi => tb_0 A t1 hi) (fun i hi => if_pos hi)]
    · rfl
    · intro i
      show (if i < tl b n1 then 0 else tb b n2 (i - tl b n1)) < 256
      split
      · omega
      · exact b2 _
theorem jn_loop {g : Gh} {o : Go} {b : Ab} {n1 n2 L N : Nat} {F : Nat → Nat} (A : AI b) (t1 : txn b n1) (t2 : txn b n2) (m1 : n1 ≠ N) (m2 : n2 ≠ N) (oN : obj b N) (kN : b.kd N = 3) (lN : b.ln N = L) (hL : L = tl b n1 + tl b n2) (hL2 : L ≤ 32768) (hF : F = jnF (tb b n1) (tb b n2) (tl b n1)) : ∀ k w fu (z : Hs), w + k = (L + 7) / 8 → k < fu → RC z g o (wrt b N (cut F (8 * w))) →
    ∃ z2, tx_joined_l36 fu (Int32.ofNat (o.ho n1)) (Int32.ofNat (o.ho n2)) (Int32.ofNat (tl b n1)) (Int32.ofNat L) (Int32.ofNat (o.ho N)) (Int32.ofNat w) z = some (0, z2, .inr (Int32.ofNat (o.ho N))) ∧ RC z2 g o (wrt b N F) ∧ z2.nbt = z.nbt ∧ z2.nst = z.nst := by
  have bF : ∀ i, F i < 256 := by intro i; rw [hF]; exact jnF_lt A t1 t2 i
  have zF : ∀ i, L ≤ i → F i = 0 := by intro i hi; rw [hF]; exact jnF_0 A t1 t2 i (by omega)
  intro k
  induction k with
  | zero =>
    intro w fu z hw hfu c
    obtain ⟨f, rfl⟩ : ∃ f, fu = f + 1 := ⟨fu - 1, by omega⟩
    refine ⟨z, ?_, ?_, rfl, rfl⟩
    · rw [tx_joined_l36, wordsFor_e (by omega), PB.2.1, if_pos ((q_le (by omega) (by omega)).mpr (by omega))]
    · rw [cut_all (fun i hi => zF i (by omega))] at c
      exact c
  | succ k ih =>
    intro w fu z hw hfu c
    obtain ⟨f, rfl⟩ : ∃ f, fu = f + 1 := ⟨fu - 1, by omega⟩
    have Aw := AI_wrt A oN kN bF (fun i hi => zF i (by omega)) (8 * w)
    obtain ⟨q1, q2, q3⟩ := wr_tx t1 m1 (cut F (8 * w))
    obtain ⟨r1, r2, r3⟩ := wr_tx t2 m2 (cut F (8 * w))
    obtain ⟨z2, e2, c2, nb, ns⟩ := wr_step c Aw oN kN (by omega)
    obtain ⟨z3, e3, c3, nb3, ns3⟩ := ih (w + 1) f z2 (by omega) (by omega) c2
    obtain ⟨v, v1, v2, v3⟩ := jn_word (w := w) c Aw q1 r1 (by omega)
    rw [q2, r2, q3, ← hF] at v3
    rw [q2] at v1
    rw [q3] at v2
    refine ⟨z3, ?_, c3, nb3.trans nb, ns3.trans ns⟩
    have e1 : Int32.ofNat w + 1 = Int32.ofNat (w + 1) := q_add w 1
    have hob := c.ob N oN
    rw [tx_joined_l36, wordsFor_e (by omega), PB.2.1, if_neg (fun d => absurd ((q_le (by omega) (by omega)).mp d) (by omega)), c.i.first (Or.inr hob.m), PB.2.1, v1, PB.2.1, v2, PB.2.1, v3, q_add, e2, PB.2.2.2.2.1, e1]
    exact e3
