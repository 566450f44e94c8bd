theorem q_add (a b : Nat) : Int32.ofNat a + Int32.ofNat b = Int32.ofNat (a + b) := (Int32.ofNat_add a b).symm
theorem q_mul (a b : Nat) : Int32.ofNat a * Int32.ofNat b = Int32.ofNat (a * b) := (Int32.ofNat_mul a b).symm
theorem q_sub {a b : Nat} (h : b ≤ a) : Int32.ofNat a - Int32.ofNat b = Int32.ofNat (a - b) := (Int32.ofNat_sub a b h).symm
theorem q_nat {a : Nat} (h : a < 2147483648) : (Int32.ofNat a).toNatClampNeg = a := Int32.toNatClampNeg_ofNat_of_lt h
theorem q_lt {a b : Nat} (ha : a < 2147483648) (hb : b < 2147483648) : (Int32.ofNat a < Int32.ofNat b) ↔ a < b := Int32.ofNat_lt_iff_lt ha hb
theorem q_le {a b : Nat} (ha : a < 2147483648) (hb : b < 2147483648) : (Int32.ofNat a ≤ Int32.ofNat b) ↔ a ≤ b := Int32.ofNat_le_iff_le ha hb
theorem q_eq {a b : Nat} (ha : a < 2147483648) (hb : b < 2147483648) : (Int32.ofNat a = Int32.ofNat b) ↔ a = b := by
  constructor
  · intro h
    have := congrArg Int32.toNatClampNeg h
    rwa [q_nat ha, q_nat hb] at this
  · intro h; rw [h]
theorem q_32 (a : Nat) : (Int64.ofNat a).toInt32 = Int32.ofNat a := Int64.toInt32_ofNat'
theorem q_64 {a : Nat} (h : a < 2147483648) : (Int32.ofNat a).toInt64 = Int64.ofNat a := NT.l64 h
theorem q_inb {a n : Nat} (h : a < n) (hn : n ≤ 2147483648) : inb (Int32.ofNat a) n = true := by
  unfold inb
  rw [decide_eq_true_eq, q_nat (by omega), show (0 : Int32) = Int32.ofNat 0 from rfl, q_lt (by omega) (by omega)]
  omega
theorem l_add (a b : Nat) : Int64.ofNat a + Int64.ofNat b = Int64.ofNat (a + b) := (Int64.ofNat_add a b).symm
theorem l_mul (a b : Nat) : Int64.ofNat a * Int64.ofNat b = Int64.ofNat (a * b) := (Int64.ofNat_mul a b).symm
theorem l_sub {a b : Nat} (h : b ≤ a) : Int64.ofNat a - Int64.ofNat b = Int64.ofNat (a - b) := (Int64.ofNat_sub a b h).symm
theorem l_lt {a b : Nat} (ha : a < 9223372036854775808) (hb : b < 9223372036854775808) : (Int64.ofNat a < Int64.ofNat b) ↔ a < b := Int64.ofNat_lt_iff_lt ha hb
theorem l_eq {a b : Nat} (ha : a < 18446744073709551616) (hb : b < 18446744073709551616) : (Int64.ofNat a = Int64.ofNat b) ↔ a = b := by
  constructor
  · intro h
    have := congrArg (fun x => x.toBitVec.toNat) h
    simp at this
    omega
  · intro h; rw [h]
theorem l_or (a b : Nat) : Int64.ofNat a ||| Int64.ofNat b = Int64.ofNat (a ||| b) := by
  apply Int64.toBitVec_inj.mp
  apply BitVec.eq_of_toNat_eq
  simp
theorem l_and (a b : Nat) : Int64.ofNat a &&& Int64.ofNat b = Int64.ofNat (a &&& b) := by
  apply Int64.toBitVec_inj.mp
  apply BitVec.eq_of_toNat_eq
  simp
theorem l_xor (a b : Nat) : Int64.ofNat a ^^^ Int64.ofNat b = Int64.ofNat (a ^^^ b) := by
  apply Int64.toBitVec_inj.mp
  apply BitVec.eq_of_toNat_eq
  simp
theorem q_and (a b : Nat) : Int32.ofNat a &&& Int32.ofNat b = Int32.ofNat (a &&& b) := by
  apply Int32.toBitVec_inj.mp
  apply BitVec.eq_of_toNat_eq
  simp
theorem q_or (a b : Nat) : Int32.ofNat a ||| Int32.ofNat b = Int32.ofNat (a ||| b) := by
  apply Int32.toBitVec_inj.mp
  apply BitVec.eq_of_toNat_eq
  simp
theorem l_mask (a k : Nat) : Int64.ofNat a &&& Int64.ofNat (2 ^ k - 1) = Int64.ofNat (a % 2 ^ k) := by
  rw [l_and, Nat.and_two_pow_sub_one_eq_mod]
theorem q_mask (a k : Nat) : Int32.ofNat a &&& Int32.ofNat (2 ^ k - 1) = Int32.ofNat (a % 2 ^ k) := by
  rw [q_and, Nat.and_two_pow_sub_one_eq_mod]
theorem sh_amt : ∀ k, k < 64 → ((Int32.ofNat k).toInt64.toUInt64 &&& Int64.toUInt64 63) = UInt64.ofNat k := by decide
theorem sl_amt : ∀ k, k < 64 → ((Int32.ofNat k).toInt64 &&& 63) = Int64.ofNat k := by decide
theorem l_shr {a k : Nat} (ha : a < 18446744073709551616) (hk : k < 64) : ((Int64.ofNat a).toUInt64 >>> ((Int32.ofNat k).toInt64.toUInt64 &&& Int64.toUInt64 63)).toInt64 = Int64.ofNat (a / 2 ^ k) := by
  rw [sh_amt k hk, Int64.toUInt64_ofNat']
  have : UInt64.ofNat a >>> UInt64.ofNat k = UInt64.ofNat (a / 2 ^ k) := by
    apply UInt64.toNat_inj.mp
    rw [UInt64.toNat_shiftRight, UInt64.toNat_ofNat', UInt64.toNat_ofNat', UInt64.toNat_ofNat', Nat.mod_eq_of_lt ha, Nat.mod_eq_of_lt (by omega : k < 2 ^ 64), Nat.mod_eq_of_lt hk, Nat.shiftRight_eq_div_pow, Nat.mod_eq_of_lt]
    exact Nat.lt_of_le_of_lt (Nat.div_le_self _ _) ha
  rw [this]
  rfl
theorem sl_mod : ∀ k, k < 64 → ((Int64.ofNat k).toBitVec.smod 64).toNat = k := by decide
theorem l_shl {a k : Nat} (hk : k < 64) : (Int64.ofNat a <<< ((Int32.ofNat k).toInt64 &&& 63)) = Int64.ofNat (a * 2 ^ k) := by
  rw [sl_amt k hk]
  apply Int64.toBitVec_inj.mp
  rw [Int64.toBitVec_shiftLeft]
  apply BitVec.eq_of_toNat_eq
  rw [BitVec.shiftLeft_eq', sl_mod k hk, BitVec.toNat_shiftLeft]
  simp [Nat.shiftLeft_eq]
theorem l13 {a : Nat} (ha : a < 18446744073709551616) : ((Int64.ofNat a).toUInt64 >>> ((13 : Int32).toInt64.toUInt64 &&& Int64.toUInt64 63)).toInt64 = Int64.ofNat (a / 8192) := l_shr ha (k := 13) (by decide)
theorem l18 {a : Nat} (ha : a < 18446744073709551616) : ((Int64.ofNat a).toUInt64 >>> ((18 : Int32).toInt64.toUInt64 &&& Int64.toUInt64 63)).toInt64 = Int64.ofNat (a / 262144) := l_shr ha (k := 18) (by decide)
theorem l21 {a : Nat} (ha : a < 18446744073709551616) : ((Int64.ofNat a).toUInt64 >>> ((21 : Int32).toInt64.toUInt64 &&& Int64.toUInt64 63)).toInt64 = Int64.ofNat (a / 2097152) := l_shr ha (k := 21) (by decide)
theorem l22 {a : Nat} (ha : a < 18446744073709551616) : ((Int64.ofNat a).toUInt64 >>> ((22 : Int32).toInt64.toUInt64 &&& Int64.toUInt64 63)).toInt64 = Int64.ofNat (a / 4194304) := l_shr ha (k := 22) (by decide)
theorem l40 {a : Nat} (ha : a < 18446744073709551616) : ((Int64.ofNat a).toUInt64 >>> ((40 : Int32).toInt64.toUInt64 &&& Int64.toUInt64 63)).toInt64 = Int64.ofNat (a / 1099511627776) := l_shr ha (k := 40) (by decide)
theorem m8191 (a : Nat) : Int64.ofNat a &&& 8191 = Int64.ofNat (a % 8192) := l_mask a 13
theorem m7 (a : Nat) : Int64.ofNat a &&& 7 = Int64.ofNat (a % 8) := l_mask a 3
theorem m1 (a : Nat) : Int64.ofNat a &&& 1 = Int64.ofNat (a % 2) := l_mask a 1
theorem m262143 (a : Nat) : Int64.ofNat a &&& 262143 = Int64.ofNat (a % 262144) := l_mask a 18
theorem s13 (a : Nat) : Int64.ofNat a <<< ((13 : Int32).toInt64 &&& 63) = Int64.ofNat (a * 8192) := l_shl (k := 13) (by decide)
theorem s18 (a : Nat) : Int64.ofNat a <<< ((18 : Int32).toInt64 &&& 63) = Int64.ofNat (a * 262144) := l_shl (k := 18) (by decide)
theorem s22 (a : Nat) : Int64.ofNat a <<< ((22 : Int32).toInt64 &&& 63) = Int64.ofNat (a * 4194304) := l_shl (k := 22) (by decide)
theorem s40 (a : Nat) : Int64.ofNat a <<< ((40 : Int32).toInt64 &&& 63) = Int64.ofNat (a * 1099511627776) := l_shl (k := 40) (by decide)
/-- disjoint bits: or is addition -/
theorem n_or {a b k : Nat} (hb : b < 2 ^ k) : (a * 2 ^ k) ||| b = a * 2 ^ k + b := by
  rw [Nat.mul_comm]
  exact (Nat.two_pow_add_eq_or_of_lt hb a).symm
theorem q_lit (n : Nat) : (OfNat.ofNat n : Int32) = Int32.ofNat (OfNat.ofNat n) := rfl
theorem l_lit (n : Nat) : (OfNat.ofNat n : Int64) = Int64.ofNat (OfNat.ofNat n) := rfl
theorem nar0 : vp_nar .boolean 0 = 0 := by decide
theorem nar1 : vp_nar .boolean 1 = 1 := by decide
theorem narf {x : Int32} (h : x = 0 ∨ x = 1) : vp_nar .boolean x = x := by
  rcases h with h | h <;> rw [h] <;> decide
theorem zbof {x : Int32} (h : x = 0 ∨ x = 1) : zbo x = true := by
  rcases h with h | h <;> rw [h] <;> decide
theorem PB : (∀ (Z : Type) (x : Option Z), gd true x = x) ∧
  (∀ (R Z : Type) (r : R) (k : R → Option Z), b0 (some r) k = k r) ∧
  (∀ (R Z : Type) (e : String) (j : String → Z) (k : R → Option Z), bt (some (.inl e)) j k = some (j e)) ∧
  (∀ (R Z : Type) (r : R) (j : String → Z) (k : R → Option Z), bt (some (.inr r)) j k = k r) ∧
  (∀ (S R Z : Type) (s : S) (r : R) (k : S → R → Option Z), bw (some (s, r)) k = k s r) ∧
  (∀ (S R Z : Type) (s : S) (e : String) (j : S → String → Z) (k : S → R → Option Z), bwt (some (s, .inl e)) j k = some (j s e)) ∧
  (∀ (S R Z : Type) (s : S) (r : R) (j : S → String → Z) (k : S → R → Option Z), bwt (some (s, .inr r)) j k = k s r) ∧
  (∀ (Z : Type) (c d : Nat) (z : Z), addc c (some (d, z)) = some (c + d, z)) ∧
  (∀ (S R Z : Type) (c : Nat) (s : S) (r : R) (k : S → R → Option (Nat × Z)), bcw (some (c, s, r)) k = addc c (k s r)) ∧
  (∀ (S R Z : Type) (c : Nat) (s : S) (e : String) (j : Nat → S → String → Nat × Z) (k : S → R → Option (Nat × Z)), bcwt (some (c, s, .inl e)) j k = some (j c s e)) ∧
  (∀ (S R Z : Type) (c : Nat) (s : S) (r : R) (j : Nat → S → String → Nat × Z) (k : S → R → Option (Nat × Z)), bcwt (some (c, s, .inr r)) j k = addc c (k s r)) :=
  ⟨fun _ _ => rfl, fun _ _ _ _ => rfl, fun _ _ _ _ _ => rfl, fun _ _ _ _ _ => rfl, fun _ _ _ _ _ _ => rfl, fun _ _ _ _ _ _ _ => rfl, fun _ _ _ _ _ _ _ => rfl, fun _ _ _ _ => rfl, fun _ _ _ _ _ _ _ => rfl, fun _ _ _ _ _ _ _ _ => rfl, fun _ _ _ _ _ _ _ _ => rfl⟩
theorem PQ : (∀ a b : Nat, Int32.ofNat a + Int32.ofNat b = Int32.ofNat (a + b)) ∧
  (∀ a b : Nat, Int32.ofNat a * Int32.ofNat b = Int32.ofNat (a * b)) ∧
  (∀ a b : Nat, b ≤ a → Int32.ofNat a - Int32.ofNat b = Int32.ofNat (a - b)) ∧
  (∀ a : Nat, a < 2147483648 → (Int32.ofNat a).toNatClampNeg = a) ∧
  (∀ a b : Nat, a < 2147483648 → b < 2147483648 → ((Int32.ofNat a < Int32.ofNat b) = (a < b))) ∧
  (∀ a b : Nat, a < 2147483648 → b < 2147483648 → ((Int32.ofNat a ≤ Int32.ofNat b) = (a ≤ b))) ∧
  (∀ a b : Nat, a < 2147483648 → b < 2147483648 → ((Int32.ofNat a = Int32.ofNat b) = (a = b))) ∧
  (∀ a : Nat, (Int64.ofNat a).toInt32 = Int32.ofNat a) ∧
  (∀ a : Nat, a < 2147483648 → (Int32.ofNat a).toInt64 = Int64.ofNat a) ∧
  (∀ a n : Nat, a < n → n ≤ 2147483648 → inb (Int32.ofNat a) n = true) ∧
  (∀ n : Nat, (OfNat.ofNat n : Int32) = Int32.ofNat (OfNat.ofNat n)) :=
  ⟨q_add, q_mul, fun _ _ => q_sub, fun _ => q_nat, fun _ _ h k => propext (q_lt h k), fun _ _ h k => propext (q_le h k), fun _ _ h k => propext (q_eq h k), q_32, fun _ => q_64, fun _ _ => q_inb, fun _ => rfl⟩


theorem gdT {Z : Type} (x : Option Z) : gd true x = x := rfl
theorem q_nlt0 {a : Nat} (h : a < 2147483648) : ¬ (Int32.ofNat a < 0) := fun c => absurd ((q_lt (b := 0) h (by omega)).mp c) (by omega)
theorem q_le0 {a : Nat} (h : a < 2147483648) : (0 : Int32) ≤ Int32.ofNat a := (q_le (a := 0) (by omega) h).mpr (by omega)
theorem q_ne0 {a : Nat} (h : a < 2147483648) (h0 : a ≠ 0) : ¬ (Int32.ofNat a = 0) := fun c => h0 ((q_eq (b := 0) h (by omega)).mp c)
theorem q_nle0 {a : Nat} (h : a < 2147483648) (h0 : a ≠ 0) : ¬ (Int32.ofNat a ≤ 0) := fun c => h0 (by have := (q_le (b := 0) h (by omega)).mp c; omega)
theorem q_nek {a : Nat} (k : Nat) (h : a < 2147483648) (hk : k < 2147483648) (h0 : a ≠ k) : ¬ (Int32.ofNat a = Int32.ofNat k) := fun c => h0 ((q_eq h hk).mp c)
theorem H_sqd : (∀ (z : Hs) (v : Int32), Hs.lim (Hs.sqd z v) = Hs.lim z) ∧ (∀ (z : Hs) (v : Int32), Hs.qd (Hs.sqd z v) = v) ∧ (∀ (z : Hs) (v : Int32), Hs.lh (Hs.sqd z v) = Hs.lh z) ∧ (∀ (z : Hs) (v : Int32), Hs.fh (Hs.sqd z v) = Hs.fh z) ∧ (∀ (z : Hs) (v : Int32), Hs.en (Hs.sqd z v) = Hs.en z) ∧ (∀ (z : Hs) (v : Int32), Hs.md (Hs.sqd z v) = Hs.md z) ∧ (∀ (z : Hs) (v : Int32), Hs.co (Hs.sqd z v) = Hs.co z) ∧ (∀ (z : Hs) (v : Int32), Hs.gb (Hs.sqd z v) = Hs.gb z) ∧ (∀ (z : Hs) (v : Int32), Hs.al (Hs.sqd z v) = Hs.al z) ∧ (∀ (z : Hs) (v : Int32), Hs.nbt (Hs.sqd z v) = Hs.nbt z) ∧ (∀ (z : Hs) (v : Int32), Hs.abt (Hs.sqd z v) = Hs.abt z) ∧ (∀ (z : Hs) (v : Int32), Hs.nrf (Hs.sqd z v) = Hs.nrf z) ∧ (∀ (z : Hs) (v : Int32), Hs.arf (Hs.sqd z v) = Hs.arf z) ∧ (∀ (z : Hs) (v : Int32), Hs.nst (Hs.sqd z v) = Hs.nst z) ∧ (∀ (z : Hs) (v : Int32), Hs.ast (Hs.sqd z v) = Hs.ast z) ∧ (∀ (z : Hs) (v : Int32), Hs.nrc (Hs.sqd z v) = Hs.nrc z) ∧ (∀ (z : Hs) (v : Int32), Hs.arc (Hs.sqd z v) = Hs.arc z) ∧ (∀ (z : Hs) (v : Int32), Hs.nqu (Hs.sqd z v) = Hs.nqu z) ∧ (∀ (z : Hs) (v : Int32), Hs.aqu (Hs.sqd z v) = Hs.aqu z) := ⟨fun _ _ => rfl, fun _ _ => rfl, fun _ _ => rfl, fun _ _ => rfl, fun _ _ => rfl, fun _ _ => rfl, fun _ _ => rfl, fun _ _ => rfl, fun _ _ => rfl, fun _ _ => rfl, fun _ _ => rfl, fun _ _ => rfl, fun _ _ => rfl, fun _ _ => rfl, fun _ _ => rfl, fun _ _ => rfl, fun _ _ => rfl, fun _ _ => rfl, fun _ _ => rfl⟩
theorem H_sfh : (∀ (z : Hs) (v : Int32), Hs.lim (Hs.sfh z v) = Hs.lim z) ∧ (∀ (z : Hs) (v : Int32), Hs.qd (Hs.sfh z v) = Hs.qd z) ∧ (∀ (z : Hs) (v : Int32), Hs.lh (Hs.sfh z v) = Hs.lh z) ∧ (∀ (z : Hs) (v : Int32), Hs.fh (Hs.sfh z v) = v) ∧ (∀ (z : Hs) (v : Int32), Hs.en (Hs.sfh z v) = Hs.en z) ∧ (∀ (z : Hs) (v : Int32), Hs.md (Hs.sfh z v) = Hs.md z) ∧ (∀ (z : Hs) (v : Int32), Hs.co (Hs.sfh z v) = Hs.co z) ∧ (∀ (z : Hs) (v : Int32), Hs.gb (Hs.sfh z v) = Hs.gb z) ∧ (∀ (z : Hs) (v : Int32), Hs.al (Hs.sfh z v) = Hs.al z) ∧ (∀ (z : Hs) (v : Int32), Hs.nbt (Hs.sfh z v) = Hs.nbt z) ∧ (∀ (z : Hs) (v : Int32), Hs.abt (Hs.sfh z v) = Hs.abt z) ∧ (∀ (z : Hs) (v : Int32), Hs.nrf (Hs.sfh z v) = Hs.nrf z) ∧ (∀ (z : Hs) (v : Int32), Hs.arf (Hs.sfh z v) = Hs.arf z) ∧ (∀ (z : Hs) (v : Int32), Hs.nst (Hs.sfh z v) = Hs.nst z) ∧ (∀ (z : Hs) (v : Int32), Hs.ast (Hs.sfh z v) = Hs.ast z) ∧ (∀ (z : Hs) (v : Int32), Hs.nrc (Hs.sfh z v) = Hs.nrc z) ∧ (∀ (z : Hs) (v : Int32), Hs.arc (Hs.sfh z v) = Hs.arc z) ∧ (∀ (z : Hs) (v : Int32), Hs.nqu (Hs.sfh z v) = Hs.nqu z) ∧ (∀ (z : Hs) (v : Int32), Hs.aqu (Hs.sfh z v) = Hs.aqu z) := ⟨fun _ _ => rfl, fun _ _ => rfl, fun _ _ => rfl, fun _ _ => rfl, fun _ _ => rfl, fun _ _ => rfl, fun _ _ => rfl, fun _ _ => rfl, fun _ _ => rfl, fun _ _ => rfl, fun _ _ => rfl, fun _ _ => rfl, fun _ _ => rfl, fun _ _ => rfl, fun _ _ => rfl, fun _ _ => rfl, fun _ _ => rfl, fun _ _ => rfl, fun _ _ => rfl⟩
theorem H_sen : (∀ (z : Hs) (v : Int32), Hs.lim (Hs.sen z v) = Hs.lim z) ∧ (∀ (z : Hs) (v : Int32), Hs.qd (Hs.sen z v) = Hs.qd z) ∧ (∀ (z : Hs) (v : Int32), Hs.lh (Hs.sen z v) = Hs.lh z) ∧ (∀ (z : Hs) (v : Int32), Hs.fh (Hs.sen z v) = Hs.fh z) ∧ (∀ (z : Hs) (v : Int32), Hs.en (Hs.sen z v) = v) ∧ (∀ (z : Hs) (v : Int32), Hs.md (Hs.sen z v) = Hs.md z) ∧ (∀ (z : Hs) (v : Int32), Hs.co (Hs.sen z v) = Hs.co z) ∧ (∀ (z : Hs) (v : Int32), Hs.gb (Hs.sen z v) = Hs.gb z) ∧ (∀ (z : Hs) (v : Int32), Hs.al (Hs.sen z v) = Hs.al z) ∧ (∀ (z : Hs) (v : Int32), Hs.nbt (Hs.sen z v) = Hs.nbt z) ∧ (∀ (z : Hs) (v : Int32), Hs.abt (Hs.sen z v) = Hs.abt z) ∧ (∀ (z : Hs) (v : Int32), Hs.nrf (Hs.sen z v) = Hs.nrf z) ∧ (∀ (z : Hs) (v : Int32), Hs.arf (Hs.sen z v) = Hs.arf z) ∧ (∀ (z : Hs) (v : Int32), Hs.nst (Hs.sen z v) = Hs.nst z) ∧ (∀ (z : Hs) (v : Int32), Hs.ast (Hs.sen z v) = Hs.ast z) ∧ (∀ (z : Hs) (v : Int32), Hs.nrc (Hs.sen z v) = Hs.nrc z) ∧ (∀ (z : Hs) (v : Int32), Hs.arc (Hs.sen z v) = Hs.arc z) ∧ (∀ (z : Hs) (v : Int32), Hs.nqu (Hs.sen z v) = Hs.nqu z) ∧ (∀ (z : Hs) (v : Int32), Hs.aqu (Hs.sen z v) = Hs.aqu z) := ⟨fun _ _ => rfl, fun _ _ => rfl, fun _ _ => rfl, fun _ _ => rfl, fun _ _ => rfl, fun _ _ => rfl, fun _ _ => rfl, fun _ _ => rfl, fun _ _ => rfl, fun _ _ => rfl, fun _ _ => rfl, fun _ _ => rfl, fun _ _ => rfl, fun _ _ => rfl, fun _ _ => rfl, fun _ _ => rfl, fun _ _ => rfl, fun _ _ => rfl, fun _ _ => rfl⟩
theorem H_wbt : (∀ (z : Hs) (v : Nat → Int64), Hs.lim (Hs.wbt z v) = Hs.lim z) ∧ (∀ (z : Hs) (v : Nat → Int64), Hs.qd (Hs.wbt z v) = Hs.qd z) ∧ (∀ (z : Hs) (v : Nat → Int64), Hs.lh (Hs.wbt z v) = Hs.lh z) ∧ (∀ (z : Hs) (v : Nat → Int64), Hs.fh (Hs.wbt z v) = Hs.fh z) ∧ (∀ (z : Hs) (v : Nat → Int64), Hs.en (Hs.wbt z v) = Hs.en z) ∧ (∀ (z : Hs) (v : Nat → Int64), Hs.md (Hs.wbt z v) = Hs.md z) ∧ (∀ (z : Hs) (v : Nat → Int64), Hs.co (Hs.wbt z v) = Hs.co z) ∧ (∀ (z : Hs) (v : Nat → Int64), Hs.gb (Hs.wbt z v) = Hs.gb z) ∧ (∀ (z : Hs) (v : Nat → Int64), Hs.al (Hs.wbt z v) = Hs.al z) ∧ (∀ (z : Hs) (v : Nat → Int64), Hs.nbt (Hs.wbt z v) = Hs.nbt z) ∧ (∀ (z : Hs) (v : Nat → Int64), Hs.abt (Hs.wbt z v) = v) ∧ (∀ (z : Hs) (v : Nat → Int64), Hs.nrf (Hs.wbt z v) = Hs.nrf z) ∧ (∀ (z : Hs) (v : Nat → Int64), Hs.arf (Hs.wbt z v) = Hs.arf z) ∧ (∀ (z : Hs) (v : Nat → Int64), Hs.nst (Hs.wbt z v) = Hs.nst z) ∧ (∀ (z : Hs) (v : Nat → Int64), Hs.ast (Hs.wbt z v) = Hs.ast z) ∧ (∀ (z : Hs) (v : Nat → Int64), Hs.nrc (Hs.wbt z v) = Hs.nrc z) ∧ (∀ (z : Hs) (v : Nat → Int64), Hs.arc (Hs.wbt z v) = Hs.arc z) ∧ (∀ (z : Hs) (v : Nat → Int64), Hs.nqu (Hs.wbt z v) = Hs.nqu z) ∧ (∀ (z : Hs) (v : Nat → Int64), Hs.aqu (Hs.wbt z v) = Hs.aqu z) := ⟨fun _ _ => rfl, fun _ _ => rfl, fun _ _ => rfl, fun _ _ => rfl, fun _ _ => rfl, fun _ _ => rfl, fun _ _ => rfl, fun _ _ => rfl, fun _ _ => rfl, fun _ _ => rfl, fun _ _ => rfl, fun _ _ => rfl, fun _ _ => rfl, fun _ _ => rfl, fun _ _ => rfl, fun _ _ => rfl, fun _ _ => rfl, fun _ _ => rfl, fun _ _ => rfl⟩
theorem H_wrf : (∀ (z : Hs) (v : Nat → Int32), Hs.lim (Hs.wrf z v) = Hs.lim z) ∧ (∀ (z : Hs) (v : Nat → Int32), Hs.qd (Hs.wrf z v) = Hs.qd z) ∧ (∀ (z : Hs) (v : Nat → Int32), Hs.lh (Hs.wrf z v) = Hs.lh z) ∧ (∀ (z : Hs) (v : Nat → Int32), Hs.fh (Hs.wrf z v) = Hs.fh z) ∧ (∀ (z : Hs) (v : Nat → Int32), Hs.en (Hs.wrf z v) = Hs.en z) ∧ (∀ (z : Hs) (v : Nat → Int32), Hs.md (Hs.wrf z v) = Hs.md z) ∧ (∀ (z : Hs) (v : Nat → Int32), Hs.co (Hs.wrf z v) = Hs.co z) ∧ (∀ (z : Hs) (v : Nat → Int32), Hs.gb (Hs.wrf z v) = Hs.gb z) ∧ (∀ (z : Hs) (v : Nat → Int32), Hs.al (Hs.wrf z v) = Hs.al z) ∧ (∀ (z : Hs) (v : Nat → Int32), Hs.nbt (Hs.wrf z v) = Hs.nbt z) ∧ (∀ (z : Hs) (v : Nat → Int32), Hs.abt (Hs.wrf z v) = Hs.abt z) ∧ (∀ (z : Hs) (v : Nat → Int32), Hs.nrf (Hs.wrf z v) = Hs.nrf z) ∧ (∀ (z : Hs) (v : Nat → Int32), Hs.arf (Hs.wrf z v) = v) ∧ (∀ (z : Hs) (v : Nat → Int32), Hs.nst (Hs.wrf z v) = Hs.nst z) ∧ (∀ (z : Hs) (v : Nat → Int32), Hs.ast (Hs.wrf z v) = Hs.ast z) ∧ (∀ (z : Hs) (v : Nat → Int32), Hs.nrc (Hs.wrf z v) = Hs.nrc z) ∧ (∀ (z : Hs) (v : Nat → Int32), Hs.arc (Hs.wrf z v) = Hs.arc z) ∧ (∀ (z : Hs) (v : Nat → Int32), Hs.nqu (Hs.wrf z v) = Hs.nqu z) ∧ (∀ (z : Hs) (v : Nat → Int32), Hs.aqu (Hs.wrf z v) = Hs.aqu z) := ⟨fun _ _ => rfl, fun _ _ => rfl, fun _ _ => rfl, fun _ _ => rfl, fun _ _ => rfl, fun _ _ => rfl, fun _ _ => rfl, fun _ _ => rfl, fun _ _ => rfl, fun _ _ => rfl, fun _ _ => rfl, fun _ _ => rfl, fun _ _ => rfl, fun _ _ => rfl, fun _ _ => rfl, fun _ _ => rfl, fun _ _ => rfl, fun _ _ => rfl, fun _ _ => rfl⟩
theorem H_wst : (∀ (z : Hs) (v : Nat → Int64), Hs.lim (Hs.wst z v) = Hs.lim z) ∧ (∀ (z : Hs) (v : Nat → Int64), Hs.qd (Hs.wst z v) = Hs.qd z) ∧ (∀ (z : Hs) (v : Nat → Int64), Hs.lh (Hs.wst z v) = Hs.lh z) ∧ (∀ (z : Hs) (v : Nat → Int64), Hs.fh (Hs.wst z v) = Hs.fh z) ∧ (∀ (z : Hs) (v : Nat → Int64), Hs.en (Hs.wst z v) = Hs.en z) ∧ (∀ (z : Hs) (v : Nat → Int64), Hs.md (Hs.wst z v) = Hs.md z) ∧ (∀ (z : Hs) (v : Nat → Int64), Hs.co (Hs.wst z v) = Hs.co z) ∧ (∀ (z : Hs) (v : Nat → Int64), Hs.gb (Hs.wst z v) = Hs.gb z) ∧ (∀ (z : Hs) (v : Nat → Int64), Hs.al (Hs.wst z v) = Hs.al z) ∧ (∀ (z : Hs) (v : Nat → Int64), Hs.nbt (Hs.wst z v) = Hs.nbt z) ∧ (∀ (z : Hs) (v : Nat → Int64), Hs.abt (Hs.wst z v) = Hs.abt z) ∧ (∀ (z : Hs) (v : Nat → Int64), Hs.nrf (Hs.wst z v) = Hs.nrf z) ∧ (∀ (z : Hs) (v : Nat → Int64), Hs.arf (Hs.wst z v) = Hs.arf z) ∧ (∀ (z : Hs) (v : Nat → Int64), Hs.nst (Hs.wst z v) = Hs.nst z) ∧ (∀ (z : Hs) (v : Nat → Int64), Hs.ast (Hs.wst z v) = v) ∧ (∀ (z : Hs) (v : Nat → Int64), Hs.nrc (Hs.wst z v) = Hs.nrc z) ∧ (∀ (z : Hs) (v : Nat → Int64), Hs.arc (Hs.wst z v) = Hs.arc z) ∧ (∀ (z : Hs) (v : Nat → Int64), Hs.nqu (Hs.wst z v) = Hs.nqu z) ∧ (∀ (z : Hs) (v : Nat → Int64), Hs.aqu (Hs.wst z v) = Hs.aqu z) := ⟨fun _ _ => rfl, fun _ _ => rfl, fun _ _ => rfl, fun _ _ => rfl, fun _ _ => rfl, fun _ _ => rfl, fun _ _ => rfl, fun _ _ => rfl, fun _ _ => rfl, fun _ _ => rfl, fun _ _ => rfl, fun _ _ => rfl, fun _ _ => rfl, fun _ _ => rfl, fun _ _ => rfl, fun _ _ => rfl, fun _ _ => rfl, fun _ _ => rfl, fun _ _ => rfl⟩
theorem H_wrc : (∀ (z : Hs) (v : Nat → Int32), Hs.lim (Hs.wrc z v) = Hs.lim z) ∧ (∀ (z : Hs) (v : Nat → Int32), Hs.qd (Hs.wrc z v) = Hs.qd z) ∧ (∀ (z : Hs) (v : Nat → Int32), Hs.lh (Hs.wrc z v) = Hs.lh z) ∧ (∀ (z : Hs) (v : Nat → Int32), Hs.fh (Hs.wrc z v) = Hs.fh z) ∧ (∀ (z : Hs) (v : Nat → Int32), Hs.en (Hs.wrc z v) = Hs.en z) ∧ (∀ (z : Hs) (v : Nat → Int32), Hs.md (Hs.wrc z v) = Hs.md z) ∧ (∀ (z : Hs) (v : Nat → Int32), Hs.co (Hs.wrc z v) = Hs.co z) ∧ (∀ (z : Hs) (v : Nat → Int32), Hs.gb (Hs.wrc z v) = Hs.gb z) ∧ (∀ (z : Hs) (v : Nat → Int32), Hs.al (Hs.wrc z v) = Hs.al z) ∧ (∀ (z : Hs) (v : Nat → Int32), Hs.nbt (Hs.wrc z v) = Hs.nbt z) ∧ (∀ (z : Hs) (v : Nat → Int32), Hs.abt (Hs.wrc z v) = Hs.abt z) ∧ (∀ (z : Hs) (v : Nat → Int32), Hs.nrf (Hs.wrc z v) = Hs.nrf z) ∧ (∀ (z : Hs) (v : Nat → Int32), Hs.arf (Hs.wrc z v) = Hs.arf z) ∧ (∀ (z : Hs) (v : Nat → Int32), Hs.nst (Hs.wrc z v) = Hs.nst z) ∧ (∀ (z : Hs) (v : Nat → Int32), Hs.ast (Hs.wrc z v) = Hs.ast z) ∧ (∀ (z : Hs) (v : Nat → Int32), Hs.nrc (Hs.wrc z v) = Hs.nrc z) ∧ (∀ (z : Hs) (v : Nat → Int32), Hs.arc (Hs.wrc z v) = v) ∧ (∀ (z : Hs) (v : Nat → Int32), Hs.nqu (Hs.wrc z v) = Hs.nqu z) ∧ (∀ (z : Hs) (v : Nat → Int32), Hs.aqu (Hs.wrc z v) = Hs.aqu z) := ⟨fun _ _ => rfl, fun _ _ => rfl, fun _ _ => rfl, fun _ _ => rfl, fun _ _ => rfl, fun _ _ => rfl, fun _ _ => rfl, fun _ _ => rfl, fun _ _ => rfl, fun _ _ => rfl, fun _ _ => rfl, fun _ _ => rfl, fun _ _ => rfl, fun _ _ => rfl, fun _ _ => rfl, fun _ _ => rfl, fun _ _ => rfl, fun _ _ => rfl, fun _ _ => rfl⟩
theorem H_wqu : (∀ (z : Hs) (v : Nat → Int64), Hs.lim (Hs.wqu z v) = Hs.lim z) ∧ (∀ (z : Hs) (v : Nat → Int64), Hs.qd (Hs.wqu z v) = Hs.qd z) ∧ (∀ (z : Hs) (v : Nat → Int64), Hs.lh (Hs.wqu z v) = Hs.lh z) ∧ (∀ (z : Hs) (v : Nat → Int64), Hs.fh (Hs.wqu z v) = Hs.fh z) ∧ (∀ (z : Hs) (v : Nat → Int64), Hs.en (Hs.wqu z v) = Hs.en z) ∧ (∀ (z : Hs) (v : Nat → Int64), Hs.md (Hs.wqu z v) = Hs.md z) ∧ (∀ (z : Hs) (v : Nat → Int64), Hs.co (Hs.wqu z v) = Hs.co z) ∧ (∀ (z : Hs) (v : Nat → Int64), Hs.gb (Hs.wqu z v) = Hs.gb z) ∧ (∀ (z : Hs) (v : Nat → Int64), Hs.al (Hs.wqu z v) = Hs.al z) ∧ (∀ (z : Hs) (v : Nat → Int64), Hs.nbt (Hs.wqu z v) = Hs.nbt z) ∧ (∀ (z : Hs) (v : Nat → Int64), Hs.abt (Hs.wqu z v) = Hs.abt z) ∧ (∀ (z : Hs) (v : Nat → Int64), Hs.nrf (Hs.wqu z v) = Hs.nrf z) ∧ (∀ (z : Hs) (v : Nat → Int64), Hs.arf (Hs.wqu z v) = Hs.arf z) ∧ (∀ (z : Hs) (v : Nat → Int64), Hs.nst (Hs.wqu z v) = Hs.nst z) ∧ (∀ (z : Hs) (v : Nat → Int64), Hs.ast (Hs.wqu z v) = Hs.ast z) ∧ (∀ (z : Hs) (v : Nat → Int64), Hs.nrc (Hs.wqu z v) = Hs.nrc z) ∧ (∀ (z : Hs) (v : Nat → Int64), Hs.arc (Hs.wqu z v) = Hs.arc z) ∧ (∀ (z : Hs) (v : Nat → Int64), Hs.nqu (Hs.wqu z v) = Hs.nqu z) ∧ (∀ (z : Hs) (v : Nat → Int64), Hs.aqu (Hs.wqu z v) = v) := ⟨fun _ _ => rfl, fun _ _ => rfl, fun _ _ => rfl, fun _ _ => rfl, fun _ _ => rfl, fun _ _ => rfl, fun _ _ => rfl, fun _ _ => rfl, fun _ _ => rfl, fun _ _ => rfl, fun _ _ => rfl, fun _ _ => rfl, fun _ _ => rfl, fun _ _ => rfl, fun _ _ => rfl, fun _ _ => rfl, fun _ _ => rfl, fun _ _ => rfl, fun _ _ => rfl⟩
