/-! Pure helpers: a method's pure function answers an Option (none: the machine itself would throw, or a loop's counter is used up). -/
def FU : Nat := 1000000000
def inb (i : Int32) (n : Nat) : Bool := decide (¬ (i < 0 ∨ n ≤ i.toNatClampNeg))
theorem inb_in {i : Int32} {n : Nat} (h : inb i n = true) : vp_in i n := show ¬ (i < 0 ∨ n ≤ i.toNatClampNeg) from of_decide_eq_true h
def nzb (i : Int32) : Bool := decide (¬ i = 0)
theorem nzb_ne {i : Int32} (h : nzb i = true) : ¬ i = 0 := of_decide_eq_true h
def cpb (sp dp n : Int32) (n0 n1 : Nat) : Bool := decide ((¬ sp < 0) ∧ (¬ dp < 0) ∧ (¬ n < 0) ∧ sp.toNatClampNeg + n.toNatClampNeg ≤ n0 ∧ dp.toNatClampNeg + n.toNatClampNeg ≤ n1)
theorem cpb_in {sp dp n : Int32} {n0 n1 : Nat} (h : cpb sp dp n n0 n1 = true) : (¬ sp < 0) ∧ (¬ dp < 0) ∧ (¬ n < 0) ∧ sp.toNatClampNeg + n.toNatClampNeg ≤ n0 ∧ dp.toNatClampNeg + n.toNatClampNeg ≤ n1 := of_decide_eq_true h
def flb (a b : Int32) (n : Nat) : Bool := decide ((¬ a < 0) ∧ a ≤ b ∧ b.toNatClampNeg ≤ n)
theorem flb_in {a b : Int32} {n : Nat} (h : flb a b n = true) : (¬ a < 0) ∧ a ≤ b ∧ b.toNatClampNeg ≤ n := of_decide_eq_true h
def fillL (f : Nat → Int64) (a b : Nat) (v : Int64) : Nat → Int64 := fun j => if a ≤ j ∧ j < b then v else f j
def cmpI (x y : Int32) : Int32 := if x < y then -1 else if x = y then 0 else 1
def cmpL (x y : Int64) : Int32 := if x < y then -1 else if x = y then 0 else 1
def gd {Z : Type} (b : Bool) (x : Option Z) : Option Z := if b = true then x else none
theorem of_gd {Z : Type} {b : Bool} {x : Option Z} {r : Z} (h : gd b x = some r) : b = true ∧ x = some r := by
  unfold gd at h
  split at h
  · exact ⟨by assumption, h⟩
  · cases h
def b0 {R Z : Type} (x : Option R) (k : R → Option Z) : Option Z := match x with
  | none => none
  | some r => k r
theorem of_b0 {R Z : Type} {x : Option R} {k : R → Option Z} {z : Z} (h : b0 x k = some z) : ∃ r, x = some r ∧ k r = some z := by
  cases x with
  | none => cases h
  | some r => exact ⟨r, rfl, h⟩
def bt {R Z : Type} (x : Option (String ⊕ R)) (j : String → Z) (k : R → Option Z) : Option Z := match x with
  | none => none
  | some (.inl e) => some (j e)
  | some (.inr r) => k r
theorem of_bt {R Z : Type} {x : Option (String ⊕ R)} {j : String → Z} {k : R → Option Z} {z : Z} (h : bt x j k = some z) : (∃ e, x = some (.inl e) ∧ j e = z) ∨ ∃ r, x = some (.inr r) ∧ k r = some z := by
  cases x with
  | none => cases h
  | some o => cases o with
    | inl e => exact Or.inl ⟨e, rfl, Option.some.inj h⟩
    | inr r => exact Or.inr ⟨r, rfl, h⟩
def bw {S R Z : Type} (x : Option (S × R)) (k : S → R → Option Z) : Option Z := match x with
  | none => none
  | some (s, r) => k s r
theorem of_bw {S R Z : Type} {x : Option (S × R)} {k : S → R → Option Z} {z : Z} (h : bw x k = some z) : ∃ s r, x = some (s, r) ∧ k s r = some z := by
  cases x with
  | none => cases h
  | some o => exact ⟨o.1, o.2, rfl, h⟩
def bwt {S R Z : Type} (x : Option (S × (String ⊕ R))) (j : S → String → Z) (k : S → R → Option Z) : Option Z := match x with
  | none => none
  | some (s, .inl e) => some (j s e)
  | some (s, .inr r) => k s r
theorem of_bwt {S R Z : Type} {x : Option (S × (String ⊕ R))} {j : S → String → Z} {k : S → R → Option Z} {z : Z} (h : bwt x j k = some z) : (∃ s e, x = some (s, .inl e) ∧ j s e = z) ∨ ∃ s r, x = some (s, .inr r) ∧ k s r = some z := by
  cases x with
  | none => cases h
  | some o => obtain ⟨s, o⟩ := o; cases o with
    | inl e => exact Or.inl ⟨s, e, rfl, Option.some.inj h⟩
    | inr r => exact Or.inr ⟨s, r, rfl, h⟩
def addc {Z : Type} (c : Nat) (x : Option (Nat × Z)) : Option (Nat × Z) := match x with
  | none => none
  | some (d, z) => some (c + d, z)
theorem of_addc {Z : Type} {c c0 : Nat} {x : Option (Nat × Z)} {z : Z} (h : addc c x = some (c0, z)) : ∃ d, x = some (d, z) ∧ c0 = c + d := by
  cases x with
  | none => cases h
  | some o => obtain ⟨d, o⟩ := o; cases h; exact ⟨d, rfl, rfl⟩
def bcw {S R Z : Type} (x : Option (Nat × S × R)) (k : S → R → Option (Nat × Z)) : Option (Nat × Z) := match x with
  | none => none
  | some (c, s, r) => addc c (k s r)
theorem of_bcw {S R Z : Type} {x : Option (Nat × S × R)} {k : S → R → Option (Nat × Z)} {c0 : Nat} {z : Z} (h : bcw x k = some (c0, z)) : ∃ c s r d, x = some (c, s, r) ∧ k s r = some (d, z) ∧ c0 = c + d := by
  cases x with
  | none => cases h
  | some o => obtain ⟨c, s, r⟩ := o; obtain ⟨d, h1, h2⟩ := of_addc h; exact ⟨c, s, r, d, rfl, h1, h2⟩
def bcwt {S R Z : Type} (x : Option (Nat × S × (String ⊕ R))) (j : Nat → S → String → Nat × Z) (k : S → R → Option (Nat × Z)) : Option (Nat × Z) := match x with
  | none => none
  | some (c, s, .inl e) => some (j c s e)
  | some (c, s, .inr r) => addc c (k s r)
theorem of_bcwt {S R Z : Type} {x : Option (Nat × S × (String ⊕ R))} {j : Nat → S → String → Nat × Z} {k : S → R → Option (Nat × Z)} {c0 : Nat} {z : Z} (h : bcwt x j k = some (c0, z)) : (∃ c s e, x = some (c, s, .inl e) ∧ j c s e = (c0, z)) ∨ ∃ c s r d, x = some (c, s, .inr r) ∧ k s r = some (d, z) ∧ c0 = c + d := by
  cases x with
  | none => cases h
  | some o => obtain ⟨c, s, o⟩ := o; cases o with
    | inl e => exact Or.inl ⟨c, s, e, rfl, Option.some.inj h⟩
    | inr r => obtain ⟨d, h1, h2⟩ := of_addc h; exact Or.inr ⟨c, s, r, d, rfl, h1, h2⟩
theorem of_some2 {Z : Type} {a c : Nat} {x z : Z} (h : some (a, x) = some (c, z)) : a = c ∧ x = z := by cases h; exact ⟨rfl, rfl⟩
theorem of_pair {Z : Type} {a c : Nat} {x z : Z} (h : (a, x) = (c, z)) : a = c ∧ x = z := by cases h; exact ⟨rfl, rfl⟩
def zbo (x : Int32) : Bool := decide (x = 0 ∨ x = 1)
theorem zbo_n {x : Int32} (h : zbo x = true) : narrow .boolean (.int x) = .int x := by
  rcases (of_decide_eq_true h : x = 0 ∨ x = 1) with rfl | rfl <;> decide
theorem zbo_f {x : Int32} (h : zbo x = true) : fits .boolean (.int x) = true := by
  rcases (of_decide_eq_true h : x = 0 ∨ x = 1) with rfl | rfl <;> decide
