/-! The law's loop, its start, the claim. -/
theorem and31 (x : Int32) : ∃ v, v < 32 ∧ x &&& 31 = Int32.ofNat v := by
  obtain ⟨a, rfl⟩ : ∃ a : Nat, x = Int32.ofNat a := ⟨x.toBitVec.toNat, by
    apply Int32.toBitVec_inj.mp
    rw [Int32.toBitVec_ofNat']
    exact (BitVec.ofNat_toNat 32 x.toBitVec).symm ▸ (by simp)⟩
  exact ⟨a % 32, Nat.mod_lt _ (by omega), q_mask a 5⟩
theorem lw_go {i L : Nat} (h : ¬ (Int32.ofNat L - 5 < Int32.ofNat i)) (hL : L ≤ 2561) (hi : i ≤ 2566) : i + 5 ≤ L := by
  by_cases h5 : 5 ≤ L
  · have e : Int32.ofNat L - 5 = Int32.ofNat (L - 5) := q_sub (b := 5) h5
    rw [e] at h
    have h6 : ¬ (L - 5 < i) := fun d => h ((q_lt (by omega) (by omega)).mpr d)
    omega
  · exfalso
    apply h
    have e : Int32.ofNat L - 5 < 0 := by
      have h5 : L = 0 ∨ L = 1 ∨ L = 2 ∨ L = 3 ∨ L = 4 := by omega
      rcases h5 with rfl | rfl | rfl | rfl | rfl <;> decide
    exact Int32.lt_of_lt_of_le e (q_le0 (by omega))
set_option maxHeartbeats 4000000 in
set_option maxRecDepth 100000 in
theorem law_step {p : Program} {l : Launch} {e : Env} {s : State} {m : MethodId} {below : List Frame} {meth : Method} {c : Code} {b L : Nat} {xs : Nat → Int32} {G : va_G} {cI cL cZ cB : ClassId} (X : LX p l s m meth c b L xs G cI cL cZ cB) {Qf : Nat → Nat} {q bo lm t i : Nat} (hit : i = 5 * t + 1) (hi0 : i ≤ 2566) {H : Heap} {locs : List Loc} {ls : Array Slot} {A1 A2 : Nat → Nat} {z : Lo} {mm : Ms} {cells slots : Nat} (hI : LI s G cI cL cZ cB Qf q bo H locs A1 A2 z mm) (hl : lv_has ls 8 (lvL b Qf q bo (Int32.ofNat i))) (hB : LB lm t cells slots z mm)
    (kk : i + 5 ≤ L → ∀ (H : Heap) (locs : List Loc) (ls : Array Slot) (A1 A2 : Nat → Nat) (z : Lo) (mm : Ms) (cells slots : Nat), LI s G cI cL cZ cB Qf q bo H locs A1 A2 z mm → lv_has ls 8 (lvL b Qf q bo (Int32.ofNat (i + 5))) → LB lm (t + 1) cells slots z mm →
      W p l e room_1 s m #[Value.ref b] below meth c H locs cells slots (lw_Z below #[Value.ref b] s) (F0 m 33 ls [])) :
    W p l e room_1 s m #[Value.ref b] below meth c H locs cells slots (lw_Z below #[Value.ref b] s) (F0 m 33 ls []) := by
  obtain ⟨hx, hb, hr, hml, hown, hts, hX, hbl, hlocks, hl0, hK, hT, hN, hL⟩ := id X
  obtain ⟨hP, hD, hS⟩ := id hI
  obtain ⟨S, hc1, hs1⟩ := id hB
  have pm := PotM S
  have hbA : ¬ lwA s b := Nat.not_le.mpr hbl
  have hl : lv_has ls 8 [(0, .ref b), (1, .ref (Qf 0)), (2, .ref q), (3, .ref bo), (4, .int (Int32.ofNat i))] := hl
  refine lv_iload hx hb dL_law_33 (lv_at hl 4 rfl) ?_
  refine lv_aload_n hx hb dL_law_35 rfl (lv_at hl 0 rfl) ?_
  refine va_slen hx hb hX hbl hbA hS dL_law_36 ?_
  refine lv_iconst (v := 5) hx hb dL_law_37 (by decide) ?_
  refine lv_isub hx hb dL_law_38 ?_
  refine lv_icmp_gt (tgt := 1812) hx hb dL_law_39 (by decide) (fun h9 => ?_) (fun h9 => ?_)
  · refine lv_iconst (v := 1) hx hb dL_law_1812 (by decide) ?_
    refine va_forget (fun q hq => hS.2.2 q hq) ?_
    refine W.widen (k := 601024) (n := 7293000) (by omega) (by omega) ?_
    exact lw_ret hx hb hr hlocks dL_law_1813
  · have hi : i + 5 ≤ L := lw_go h9 hL hi0
    have ht : t < 512 := by omega
    have h0 : vp_in (Int32.ofNat i) L := inb_in (q_inb (by omega) (by omega))
    refine lv_aload_n hx hb dL_law_42 rfl (lv_at hl 0 rfl) ?_
    refine lv_iload hx hb dL_law_43 (lv_at hl 4 rfl) ?_
    refine va_sld hx hb hX hbl hbA hS h0 dL_law_45 ?_
    refine lv_bipush (v := 31) hx hb dL_law_46 (by decide) ?_
    refine lv_iand hx hb dL_law_48 ?_
    obtain ⟨v, hv, ev⟩ := and31 (xs (Int32.ofNat i).toNatClampNeg)
    rw [ev]
    have kb : LK p l e s m below meth c b G cI cL cZ cB Qf q bo (Int32.ofNat i) lm t := by
      intro H locs ls A1 A2 z mm cells slots hI hl hB
      have hl : lv_has ls 8 [(0, .ref b), (1, .ref (Qf 0)), (2, .ref q), (3, .ref bo), (4, .int (Int32.ofNat i))] := hl
      refine lv_iinc (v := Int32.ofNat i + 5) (lv' := [(4, .int (Int32.ofNat i + 5)), (0, .ref b), (1, .ref (Qf 0)), (2, .ref q), (3, .ref bo)]) hx hb dL_law_1806 hl (k := 4) rfl rfl (by decide) rfl (fun ls hl => ?_)
      refine lv_goto (tgt := 33) hx hb dL_law_1809 (by decide) ?_
      have e5 : Int32.ofNat i + 5 = Int32.ofNat (i + 5) := q_add i 5
      rw [e5] at hl
      exact kk hi _ _ _ _ _ _ _ _ _ hI (lv_sub hl [1, 2, 3, 4, 0] rfl) hB
    have hv26 : v = 0 ∨ v = 1 ∨ v = 2 ∨ v = 3 ∨ v = 4 ∨ v = 5 ∨ v = 6 ∨ v = 7 ∨ v = 8 ∨ v = 9 ∨ v = 10 ∨ v = 11 ∨ v = 12 ∨ v = 13 ∨ v = 14 ∨ v = 15 ∨ v = 16 ∨ v = 17 ∨ v = 18 ∨ v = 19 ∨ v = 20 ∨ v = 21 ∨ v = 22 ∨ v = 23 ∨ v = 24 ∨ v = 25 ∨ 26 ≤ v := by omega
    rcases hv26 with rfl | rfl | rfl | rfl | rfl | rfl | rfl | rfl | rfl | rfl | rfl | rfl | rfl | rfl | rfl | rfl | rfl | rfl | rfl | rfl | rfl | rfl | rfl | rfl | rfl | rfl | hv26
    · refine lv_tableIn (off := 119) (tgt := 168) hx hb dL_law_49 (by decide) (by decide) (by decide) (by decide) ?_
      exact law_c0 X hi rfl ht hI hl hB kb
    · refine lv_tableIn (off := 199) (tgt := 248) hx hb dL_law_49 (by decide) (by decide) (by decide) (by decide) ?_
      exact law_c1 X hi rfl ht hI hl hB kb
    · refine lv_tableIn (off := 235) (tgt := 284) hx hb dL_law_49 (by decide) (by decide) (by decide) (by decide) ?_
      exact law_c2 X hi rfl ht hI hl hB kb
    · refine lv_tableIn (off := 283) (tgt := 332) hx hb dL_law_49 (by decide) (by decide) (by decide) (by decide) ?_
      exact law_c3 X hi rfl ht hI hl hB kb
    · refine lv_tableIn (off := 351) (tgt := 400) hx hb dL_law_49 (by decide) (by decide) (by decide) (by decide) ?_
      exact law_c4 X hi rfl ht hI hl hB kb
    · refine lv_tableIn (off := 419) (tgt := 468) hx hb dL_law_49 (by decide) (by decide) (by decide) (by decide) ?_
      exact law_c5 X hi rfl ht hI hl hB kb
    · refine lv_tableIn (off := 511) (tgt := 560) hx hb dL_law_49 (by decide) (by decide) (by decide) (by decide) ?_
      exact law_c6 X hi rfl ht hI hl hB kb
    · refine lv_tableIn (off := 591) (tgt := 640) hx hb dL_law_49 (by decide) (by decide) (by decide) (by decide) ?_
      exact law_c7 X hi rfl ht hI hl hB kb
    · refine lv_tableIn (off := 683) (tgt := 732) hx hb dL_law_49 (by decide) (by decide) (by decide) (by decide) ?_
      exact law_c8 X hi rfl ht hI hl hB kb
    · refine lv_tableIn (off := 751) (tgt := 800) hx hb dL_law_49 (by decide) (by decide) (by decide) (by decide) ?_
      exact law_c9 X hi rfl ht hI hl hB kb
    · refine lv_tableIn (off := 819) (tgt := 868) hx hb dL_law_49 (by decide) (by decide) (by decide) (by decide) ?_
      exact law_c10 X hi rfl ht hI hl hB kb
    · refine lv_tableIn (off := 879) (tgt := 928) hx hb dL_law_49 (by decide) (by decide) (by decide) (by decide) ?_
      exact law_c11 X hi rfl ht hI hl hB kb
    · refine lv_tableIn (off := 939) (tgt := 988) hx hb dL_law_49 (by decide) (by decide) (by decide) (by decide) ?_
      exact law_c12 X hi rfl ht hI hl hB kb
    · refine lv_tableIn (off := 999) (tgt := 1048) hx hb dL_law_49 (by decide) (by decide) (by decide) (by decide) ?_
      exact law_c13 X hi rfl ht hI hl hB kb
    · refine lv_tableIn (off := 1059) (tgt := 1108) hx hb dL_law_49 (by decide) (by decide) (by decide) (by decide) ?_
      exact law_c14 X hi rfl ht hI hl hB kb
    · refine lv_tableIn (off := 1119) (tgt := 1168) hx hb dL_law_49 (by decide) (by decide) (by decide) (by decide) ?_
      exact law_c15 X hi rfl ht hI hl hB kb
    · refine lv_tableIn (off := 1187) (tgt := 1236) hx hb dL_law_49 (by decide) (by decide) (by decide) (by decide) ?_
      exact law_c16 X hi rfl ht hI hl hB kb
    · refine lv_tableIn (off := 1255) (tgt := 1304) hx hb dL_law_49 (by decide) (by decide) (by decide) (by decide) ?_
      exact law_c17 X hi rfl ht hI hl hB kb
    · refine lv_tableIn (off := 1323) (tgt := 1372) hx hb dL_law_49 (by decide) (by decide) (by decide) (by decide) ?_
      exact law_c18 X hi rfl ht hI hl hB kb
    · refine lv_tableIn (off := 1391) (tgt := 1440) hx hb dL_law_49 (by decide) (by decide) (by decide) (by decide) ?_
      exact law_c19 X hi rfl ht hI hl hB kb
    · refine lv_tableIn (off := 1451) (tgt := 1500) hx hb dL_law_49 (by decide) (by decide) (by decide) (by decide) ?_
      exact law_c20 X hi rfl ht hI hl hB kb
    · refine lv_tableIn (off := 1464) (tgt := 1513) hx hb dL_law_49 (by decide) (by decide) (by decide) (by decide) ?_
      exact law_c21 X hi rfl ht hI hl hB kb
    · refine lv_tableIn (off := 1503) (tgt := 1552) hx hb dL_law_49 (by decide) (by decide) (by decide) (by decide) ?_
      exact law_c22 X hi rfl ht hI hl hB kb
    · refine lv_tableIn (off := 1571) (tgt := 1620) hx hb dL_law_49 (by decide) (by decide) (by decide) (by decide) ?_
      exact law_c23 X hi rfl ht hI hl hB kb
    · refine lv_tableIn (off := 1626) (tgt := 1675) hx hb dL_law_49 (by decide) (by decide) (by decide) (by decide) ?_
      exact law_c24 X hi rfl ht hI hl hB kb
    · refine lv_tableIn (off := 1701) (tgt := 1750) hx hb dL_law_49 (by decide) (by decide) (by decide) (by decide) ?_
      exact law_c25 X hi rfl ht hI hl hB kb
    · have ho : v = 26 ∨ v = 27 ∨ v = 28 ∨ v = 29 ∨ v = 30 ∨ v = 31 := by omega
      refine lv_tableOut (tgt := 1806) hx hb dL_law_49 (Or.inr ?_) (by decide) ?_
      · rcases ho with rfl | rfl | rfl | rfl | rfl | rfl <;> decide
      · exact kb _ _ _ _ _ _ _ _ _ hI hl ⟨S.mono (by omega), by omega, by omega⟩
theorem law_loop {p : Program} {l : Launch} {e : Env} {s : State} {m : MethodId} {below : List Frame} {meth : Method} {c : Code} {b L : Nat} {xs : Nat → Int32} {G : va_G} {cI cL cZ cB : ClassId} (X : LX p l s m meth c b L xs G cI cL cZ cB) {Qf : Nat → Nat} {q bo lm : Nat} :
    ∀ (n i t : Nat), i = 5 * t + 1 → i ≤ 2566 → L ≤ i + n → ∀ (H : Heap) (locs : List Loc) (ls : Array Slot) (A1 A2 : Nat → Nat) (z : Lo) (mm : Ms) (cells slots : Nat), LI s G cI cL cZ cB Qf q bo H locs A1 A2 z mm → lv_has ls 8 (lvL b Qf q bo (Int32.ofNat i)) → LB lm t cells slots z mm →
      W p l e room_1 s m #[Value.ref b] below meth c H locs cells slots (lw_Z below #[Value.ref b] s) (F0 m 33 ls []) := by
  have hL := X.2.2.2.2.2.2.2.2.2.2.2.2.2
  intro n
  induction n with
  | zero =>
    intro i t hit hi0 hn H locs ls A1 A2 z mm cells slots hI hl hB
    exact law_step X hit hi0 hI hl hB (fun h => absurd h (by omega))
  | succ n ih =>
    intro i t hit hi0 hn H locs ls A1 A2 z mm cells slots hI hl hB
    exact law_step X hit hi0 hI hl hB (fun h => ih (i + 5) (t + 1) (by omega) (by omega) (by omega))
