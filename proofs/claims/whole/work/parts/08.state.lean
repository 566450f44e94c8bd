/-! The state of a WordHeap: Heap's int fields, its five arrays (length, content). -/
abbrev Hs : Type := (((((Int32 × Int32) × Int32) × (Int32 × Int32)) × (((Int32 × Int32) × Int32) × (Int32 × Nat))) × (((((Nat → Int64) × Nat) × (Nat → Int32)) × (Nat × (Nat → Int64))) × ((Nat × (Nat → Int32)) × (Nat × (Nat → Int64)))))
def Hs.lim (z : Hs) : Int32 := z.1.1.1.1.1
def Hs.qd (z : Hs) : Int32 := z.1.1.1.1.2
def Hs.lh (z : Hs) : Int32 := z.1.1.1.2
def Hs.fh (z : Hs) : Int32 := z.1.1.2.1
def Hs.en (z : Hs) : Int32 := z.1.1.2.2
def Hs.md (z : Hs) : Int32 := z.1.2.1.1.1
def Hs.co (z : Hs) : Int32 := z.1.2.1.1.2
def Hs.gb (z : Hs) : Int32 := z.1.2.1.2
def Hs.al (z : Hs) : Int32 := z.1.2.2.1
def Hs.nbt (z : Hs) : Nat := z.1.2.2.2
def Hs.abt (z : Hs) : (Nat → Int64) := z.2.1.1.1.1
def Hs.nrf (z : Hs) : Nat := z.2.1.1.1.2
def Hs.arf (z : Hs) : (Nat → Int32) := z.2.1.1.2
def Hs.nst (z : Hs) : Nat := z.2.1.2.1
def Hs.ast (z : Hs) : (Nat → Int64) := z.2.1.2.2
def Hs.nrc (z : Hs) : Nat := z.2.2.1.1
def Hs.arc (z : Hs) : (Nat → Int32) := z.2.2.1.2
def Hs.nqu (z : Hs) : Nat := z.2.2.2.1
def Hs.aqu (z : Hs) : (Nat → Int64) := z.2.2.2.2
def Hs.slim (z : Hs) (v : Int32) : Hs := (((((v, z.1.1.1.1.2), z.1.1.1.2), z.1.1.2), z.1.2), z.2)
def Hs.sqd (z : Hs) (v : Int32) : Hs := (((((z.1.1.1.1.1, v), z.1.1.1.2), z.1.1.2), z.1.2), z.2)
def Hs.slh (z : Hs) (v : Int32) : Hs := ((((z.1.1.1.1, v), z.1.1.2), z.1.2), z.2)
def Hs.sfh (z : Hs) (v : Int32) : Hs := (((z.1.1.1, (v, z.1.1.2.2)), z.1.2), z.2)
def Hs.sen (z : Hs) (v : Int32) : Hs := (((z.1.1.1, (z.1.1.2.1, v)), z.1.2), z.2)
def Hs.smd (z : Hs) (v : Int32) : Hs := ((z.1.1, (((v, z.1.2.1.1.2), z.1.2.1.2), z.1.2.2)), z.2)
def Hs.sco (z : Hs) (v : Int32) : Hs := ((z.1.1, (((z.1.2.1.1.1, v), z.1.2.1.2), z.1.2.2)), z.2)
def Hs.sgb (z : Hs) (v : Int32) : Hs := ((z.1.1, ((z.1.2.1.1, v), z.1.2.2)), z.2)
def Hs.sal (z : Hs) (v : Int32) : Hs := ((z.1.1, (z.1.2.1, (v, z.1.2.2.2))), z.2)
def Hs.snbt (z : Hs) (v : Nat) : Hs := ((z.1.1, (z.1.2.1, (z.1.2.2.1, v))), z.2)
def Hs.wbt (z : Hs) (v : (Nat → Int64)) : Hs := (z.1, ((((v, z.2.1.1.1.2), z.2.1.1.2), z.2.1.2), z.2.2))
def Hs.snrf (z : Hs) (v : Nat) : Hs := (z.1, ((((z.2.1.1.1.1, v), z.2.1.1.2), z.2.1.2), z.2.2))
def Hs.wrf (z : Hs) (v : (Nat → Int32)) : Hs := (z.1, (((z.2.1.1.1, v), z.2.1.2), z.2.2))
def Hs.snst (z : Hs) (v : Nat) : Hs := (z.1, ((z.2.1.1, (v, z.2.1.2.2)), z.2.2))
def Hs.wst (z : Hs) (v : (Nat → Int64)) : Hs := (z.1, ((z.2.1.1, (z.2.1.2.1, v)), z.2.2))
def Hs.snrc (z : Hs) (v : Nat) : Hs := (z.1, (z.2.1, ((v, z.2.2.1.2), z.2.2.2)))
def Hs.wrc (z : Hs) (v : (Nat → Int32)) : Hs := (z.1, (z.2.1, ((z.2.2.1.1, v), z.2.2.2)))
def Hs.snqu (z : Hs) (v : Nat) : Hs := (z.1, (z.2.1, (z.2.2.1, (v, z.2.2.2.2))))
def Hs.wqu (z : Hs) (v : (Nat → Int64)) : Hs := (z.1, (z.2.1, (z.2.2.1, (z.2.2.2.1, v))))
/-- the cells: WordHeap, Heap, Texts, Maps at Q 0 .. Q 3, the arrays at A 4 .. A 8 -/
def cw (cL cZ : ClassId) (Q A : Nat → Nat) (z : Hs) : va_W :=
  [(Q 0, .inr (3, [.ref (Q 1), .ref (Q 2), .ref (Q 3)])),
   (Q 1, .inr (0, [.int (Hs.lim z), .ref (A 4), .ref (A 5), .ref (A 6), .ref (A 7), .ref (A 8), .int (Hs.qd z), .int (Hs.lh z), .int (Hs.fh z), .int (Hs.en z), .int (Hs.md z), .int (Hs.co z), .int (Hs.gb z), .int (Hs.al z)])),
   (Q 2, .inr (2, [.ref (Q 1)])),
   (Q 3, .inr (1, [.ref (Q 1), .ref (Q 2)])),
   (A 4, .inl (cL, Hs.nbt z, .inr (.inl (Hs.abt z)))),
   (A 5, .inl (cZ, Hs.nrf z, .inl (Hs.arf z))),
   (A 6, .inl (cL, Hs.nst z, .inr (.inl (Hs.ast z)))),
   (A 7, .inl (cZ, Hs.nrc z, .inl (Hs.arc z))),
   (A 8, .inl (cL, Hs.nqu z, .inr (.inl (Hs.aqu z))))]
def ct (cL cZ : ClassId) : List (ClassId × FieldType) := [(cL, .long), (cZ, .boolean)]
