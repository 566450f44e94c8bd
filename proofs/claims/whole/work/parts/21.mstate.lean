/-! The state of the reference. -/
abbrev Ms : Type := ((((((Int32 × Int64) × (Int32 × Int64)) × ((Int64 × Int64) × Int32)) × (((Int32 × Int32) × (Int32 × Int32)) × ((Nat × (Nat → Int32)) × Nat))) × (((((Nat → Int64) × Nat) × ((Nat → Int32) × Nat)) × (((Nat → Int32) × Nat) × (Nat → Int32))) × (((Nat × (Nat → Int32)) × Nat) × (((Nat → Int32) × Nat) × (Nat → Int32))))) × (((((Nat × (Nat → Int32)) × (Nat × (Nat → Int32))) × ((Nat × (Nat → Int32)) × Nat)) × ((((Nat → Int32) × Nat) × (Nat → Int32)) × ((Nat × (Nat → Int32)) × Nat))) × (((((Nat → Int32) × Nat) × ((Nat → Int64) × Nat)) × (((Nat → Int32) × Nat) × (Nat → Int32))) × (((Nat × (Nat → Int32)) × Nat) × (((Nat → Int32) × Nat) × (Nat → Int64))))))
def Ms.thr (z : Ms) : Int32 := z.1.1.1.1.1.1
def Ms.lim (z : Ms) : Int64 := z.1.1.1.1.1.2
def Ms.eag (z : Ms) : Int32 := z.1.1.1.1.2.1
def Ms.usd (z : Ms) : Int64 := z.1.1.1.1.2.2
def Ms.gvb (z : Ms) : Int64 := z.1.1.1.2.1.1
def Ms.old (z : Ms) : Int64 := z.1.1.1.2.1.2
def Ms.col (z : Ms) : Int32 := z.1.1.1.2.2
def Ms.mad (z : Ms) : Int32 := z.1.1.2.1.1.1
def Ms.wrd (z : Ms) : Int32 := z.1.1.2.1.1.2
def Ms.byc (z : Ms) : Int32 := z.1.1.2.1.2.1
def Ms.ent (z : Ms) : Int32 := z.1.1.2.1.2.2
def Ms.ntg (z : Ms) : Nat := z.1.1.2.2.1.1
def Ms.atg (z : Ms) : (Nat → Int32) := z.1.1.2.2.1.2
def Ms.nvl (z : Ms) : Nat := z.1.1.2.2.2
def Ms.avl (z : Ms) : (Nat → Int64) := z.1.2.1.1.1.1
def Ms.nso (z : Ms) : Nat := z.1.2.1.1.1.2
def Ms.aso (z : Ms) : (Nat → Int32) := z.1.2.1.1.2.1
def Ms.nsi (z : Ms) : Nat := z.1.2.1.1.2.2
def Ms.asi (z : Ms) : (Nat → Int32) := z.1.2.1.2.1.1
def Ms.nsr (z : Ms) : Nat := z.1.2.1.2.1.2
def Ms.asr (z : Ms) : (Nat → Int32) := z.1.2.1.2.2
def Ms.nke (z : Ms) : Nat := z.1.2.2.1.1.1
def Ms.ake (z : Ms) : (Nat → Int32) := z.1.2.2.1.1.2
def Ms.nva (z : Ms) : Nat := z.1.2.2.1.2
def Ms.ava (z : Ms) : (Nat → Int32) := z.1.2.2.2.1.1
def Ms.nte (z : Ms) : Nat := z.1.2.2.2.1.2
def Ms.ate (z : Ms) : (Nat → Int32) := z.1.2.2.2.2
def Ms.nca (z : Ms) : Nat := z.2.1.1.1.1.1
def Ms.aca (z : Ms) : (Nat → Int32) := z.2.1.1.1.1.2
def Ms.nfi (z : Ms) : Nat := z.2.1.1.1.2.1
def Ms.afi (z : Ms) : (Nat → Int32) := z.2.1.1.1.2.2
def Ms.nod (z : Ms) : Nat := z.2.1.1.2.1.1
def Ms.aod (z : Ms) : (Nat → Int32) := z.2.1.1.2.1.2
def Ms.nth (z : Ms) : Nat := z.2.1.1.2.2
def Ms.ath (z : Ms) : (Nat → Int32) := z.2.1.2.1.1.1
def Ms.nkp (z : Ms) : Nat := z.2.1.2.1.1.2
def Ms.akp (z : Ms) : (Nat → Int32) := z.2.1.2.1.2
def Ms.nre (z : Ms) : Nat := z.2.1.2.2.1.1
def Ms.are (z : Ms) : (Nat → Int32) := z.2.1.2.2.1.2
def Ms.nwt (z : Ms) : Nat := z.2.1.2.2.2
def Ms.awt (z : Ms) : (Nat → Int32) := z.2.2.1.1.1.1
def Ms.nwv (z : Ms) : Nat := z.2.2.1.1.1.2
def Ms.awv (z : Ms) : (Nat → Int64) := z.2.2.1.1.2.1
def Ms.nby (z : Ms) : Nat := z.2.2.1.1.2.2
def Ms.aby (z : Ms) : (Nat → Int32) := z.2.2.1.2.1.1
def Ms.nem (z : Ms) : Nat := z.2.2.1.2.1.2
def Ms.aem (z : Ms) : (Nat → Int32) := z.2.2.1.2.2
def Ms.neo (z : Ms) : Nat := z.2.2.2.1.1.1
def Ms.aeo (z : Ms) : (Nat → Int32) := z.2.2.2.1.1.2
def Ms.net (z : Ms) : Nat := z.2.2.2.1.2
def Ms.aet (z : Ms) : (Nat → Int32) := z.2.2.2.2.1.1
def Ms.nev (z : Ms) : Nat := z.2.2.2.2.1.2
def Ms.aev (z : Ms) : (Nat → Int64) := z.2.2.2.2.2
def Ms.sthr (z : Ms) (v : Int32) : Ms := ((((((v, z.1.1.1.1.1.2), z.1.1.1.1.2), z.1.1.1.2), z.1.1.2), z.1.2), z.2)
def Ms.slim (z : Ms) (v : Int64) : Ms := ((((((z.1.1.1.1.1.1, v), z.1.1.1.1.2), z.1.1.1.2), z.1.1.2), z.1.2), z.2)
def Ms.seag (z : Ms) (v : Int32) : Ms := (((((z.1.1.1.1.1, (v, z.1.1.1.1.2.2)), z.1.1.1.2), z.1.1.2), z.1.2), z.2)
def Ms.susd (z : Ms) (v : Int64) : Ms := (((((z.1.1.1.1.1, (z.1.1.1.1.2.1, v)), z.1.1.1.2), z.1.1.2), z.1.2), z.2)
def Ms.sgvb (z : Ms) (v : Int64) : Ms := ((((z.1.1.1.1, ((v, z.1.1.1.2.1.2), z.1.1.1.2.2)), z.1.1.2), z.1.2), z.2)
def Ms.sold (z : Ms) (v : Int64) : Ms := ((((z.1.1.1.1, ((z.1.1.1.2.1.1, v), z.1.1.1.2.2)), z.1.1.2), z.1.2), z.2)
def Ms.scol (z : Ms) (v : Int32) : Ms := ((((z.1.1.1.1, (z.1.1.1.2.1, v)), z.1.1.2), z.1.2), z.2)
def Ms.smad (z : Ms) (v : Int32) : Ms := (((z.1.1.1, (((v, z.1.1.2.1.1.2), z.1.1.2.1.2), z.1.1.2.2)), z.1.2), z.2)
def Ms.swrd (z : Ms) (v : Int32) : Ms := (((z.1.1.1, (((z.1.1.2.1.1.1, v), z.1.1.2.1.2), z.1.1.2.2)), z.1.2), z.2)
def Ms.sbyc (z : Ms) (v : Int32) : Ms := (((z.1.1.1, ((z.1.1.2.1.1, (v, z.1.1.2.1.2.2)), z.1.1.2.2)), z.1.2), z.2)
def Ms.sent (z : Ms) (v : Int32) : Ms := (((z.1.1.1, ((z.1.1.2.1.1, (z.1.1.2.1.2.1, v)), z.1.1.2.2)), z.1.2), z.2)
def Ms.sntg (z : Ms) (v : Nat) : Ms := (((z.1.1.1, (z.1.1.2.1, ((v, z.1.1.2.2.1.2), z.1.1.2.2.2))), z.1.2), z.2)
def Ms.wtg (z : Ms) (v : (Nat → Int32)) : Ms := (((z.1.1.1, (z.1.1.2.1, ((z.1.1.2.2.1.1, v), z.1.1.2.2.2))), z.1.2), z.2)
def Ms.snvl (z : Ms) (v : Nat) : Ms := (((z.1.1.1, (z.1.1.2.1, (z.1.1.2.2.1, v))), z.1.2), z.2)
def Ms.wvl (z : Ms) (v : (Nat → Int64)) : Ms := ((z.1.1, ((((v, z.1.2.1.1.1.2), z.1.2.1.1.2), z.1.2.1.2), z.1.2.2)), z.2)
def Ms.snso (z : Ms) (v : Nat) : Ms := ((z.1.1, ((((z.1.2.1.1.1.1, v), z.1.2.1.1.2), z.1.2.1.2), z.1.2.2)), z.2)
def Ms.wso (z : Ms) (v : (Nat → Int32)) : Ms := ((z.1.1, (((z.1.2.1.1.1, (v, z.1.2.1.1.2.2)), z.1.2.1.2), z.1.2.2)), z.2)
def Ms.snsi (z : Ms) (v : Nat) : Ms := ((z.1.1, (((z.1.2.1.1.1, (z.1.2.1.1.2.1, v)), z.1.2.1.2), z.1.2.2)), z.2)
def Ms.wsi (z : Ms) (v : (Nat → Int32)) : Ms := ((z.1.1, ((z.1.2.1.1, ((v, z.1.2.1.2.1.2), z.1.2.1.2.2)), z.1.2.2)), z.2)
def Ms.snsr (z : Ms) (v : Nat) : Ms := ((z.1.1, ((z.1.2.1.1, ((z.1.2.1.2.1.1, v), z.1.2.1.2.2)), z.1.2.2)), z.2)
def Ms.wsr (z : Ms) (v : (Nat → Int32)) : Ms := ((z.1.1, ((z.1.2.1.1, (z.1.2.1.2.1, v)), z.1.2.2)), z.2)
def Ms.snke (z : Ms) (v : Nat) : Ms := ((z.1.1, (z.1.2.1, (((v, z.1.2.2.1.1.2), z.1.2.2.1.2), z.1.2.2.2))), z.2)
def Ms.wke (z : Ms) (v : (Nat → Int32)) : Ms := ((z.1.1, (z.1.2.1, (((z.1.2.2.1.1.1, v), z.1.2.2.1.2), z.1.2.2.2))), z.2)
def Ms.snva (z : Ms) (v : Nat) : Ms := ((z.1.1, (z.1.2.1, ((z.1.2.2.1.1, v), z.1.2.2.2))), z.2)
def Ms.wva (z : Ms) (v : (Nat → Int32)) : Ms := ((z.1.1, (z.1.2.1, (z.1.2.2.1, ((v, z.1.2.2.2.1.2), z.1.2.2.2.2)))), z.2)
def Ms.snte (z : Ms) (v : Nat) : Ms := ((z.1.1, (z.1.2.1, (z.1.2.2.1, ((z.1.2.2.2.1.1, v), z.1.2.2.2.2)))), z.2)
def Ms.wte (z : Ms) (v : (Nat → Int32)) : Ms := ((z.1.1, (z.1.2.1, (z.1.2.2.1, (z.1.2.2.2.1, v)))), z.2)
def Ms.snca (z : Ms) (v : Nat) : Ms := (z.1, (((((v, z.2.1.1.1.1.2), z.2.1.1.1.2), z.2.1.1.2), z.2.1.2), z.2.2))
def Ms.wca (z : Ms) (v : (Nat → Int32)) : Ms := (z.1, (((((z.2.1.1.1.1.1, v), z.2.1.1.1.2), z.2.1.1.2), z.2.1.2), z.2.2))
def Ms.snfi (z : Ms) (v : Nat) : Ms := (z.1, ((((z.2.1.1.1.1, (v, z.2.1.1.1.2.2)), z.2.1.1.2), z.2.1.2), z.2.2))
def Ms.wfi (z : Ms) (v : (Nat → Int32)) : Ms := (z.1, ((((z.2.1.1.1.1, (z.2.1.1.1.2.1, v)), z.2.1.1.2), z.2.1.2), z.2.2))
def Ms.snod (z : Ms) (v : Nat) : Ms := (z.1, (((z.2.1.1.1, ((v, z.2.1.1.2.1.2), z.2.1.1.2.2)), z.2.1.2), z.2.2))
def Ms.wod (z : Ms) (v : (Nat → Int32)) : Ms := (z.1, (((z.2.1.1.1, ((z.2.1.1.2.1.1, v), z.2.1.1.2.2)), z.2.1.2), z.2.2))
def Ms.snth (z : Ms) (v : Nat) : Ms := (z.1, (((z.2.1.1.1, (z.2.1.1.2.1, v)), z.2.1.2), z.2.2))
def Ms.wth (z : Ms) (v : (Nat → Int32)) : Ms := (z.1, ((z.2.1.1, (((v, z.2.1.2.1.1.2), z.2.1.2.1.2), z.2.1.2.2)), z.2.2))
def Ms.snkp (z : Ms) (v : Nat) : Ms := (z.1, ((z.2.1.1, (((z.2.1.2.1.1.1, v), z.2.1.2.1.2), z.2.1.2.2)), z.2.2))
def Ms.wkp (z : Ms) (v : (Nat → Int32)) : Ms := (z.1, ((z.2.1.1, ((z.2.1.2.1.1, v), z.2.1.2.2)), z.2.2))
def Ms.snre (z : Ms) (v : Nat) : Ms := (z.1, ((z.2.1.1, (z.2.1.2.1, ((v, z.2.1.2.2.1.2), z.2.1.2.2.2))), z.2.2))
def Ms.wre (z : Ms) (v : (Nat → Int32)) : Ms := (z.1, ((z.2.1.1, (z.2.1.2.1, ((z.2.1.2.2.1.1, v), z.2.1.2.2.2))), z.2.2))
def Ms.snwt (z : Ms) (v : Nat) : Ms := (z.1, ((z.2.1.1, (z.2.1.2.1, (z.2.1.2.2.1, v))), z.2.2))
def Ms.wwt (z : Ms) (v : (Nat → Int32)) : Ms := (z.1, (z.2.1, ((((v, z.2.2.1.1.1.2), z.2.2.1.1.2), z.2.2.1.2), z.2.2.2)))
def Ms.snwv (z : Ms) (v : Nat) : Ms := (z.1, (z.2.1, ((((z.2.2.1.1.1.1, v), z.2.2.1.1.2), z.2.2.1.2), z.2.2.2)))
def Ms.wwv (z : Ms) (v : (Nat → Int64)) : Ms := (z.1, (z.2.1, (((z.2.2.1.1.1, (v, z.2.2.1.1.2.2)), z.2.2.1.2), z.2.2.2)))
def Ms.snby (z : Ms) (v : Nat) : Ms := (z.1, (z.2.1, (((z.2.2.1.1.1, (z.2.2.1.1.2.1, v)), z.2.2.1.2), z.2.2.2)))
def Ms.wby (z : Ms) (v : (Nat → Int32)) : Ms := (z.1, (z.2.1, ((z.2.2.1.1, ((v, z.2.2.1.2.1.2), z.2.2.1.2.2)), z.2.2.2)))
def Ms.snem (z : Ms) (v : Nat) : Ms := (z.1, (z.2.1, ((z.2.2.1.1, ((z.2.2.1.2.1.1, v), z.2.2.1.2.2)), z.2.2.2)))
def Ms.wem (z : Ms) (v : (Nat → Int32)) : Ms := (z.1, (z.2.1, ((z.2.2.1.1, (z.2.2.1.2.1, v)), z.2.2.2)))
def Ms.sneo (z : Ms) (v : Nat) : Ms := (z.1, (z.2.1, (z.2.2.1, (((v, z.2.2.2.1.1.2), z.2.2.2.1.2), z.2.2.2.2))))
def Ms.weo (z : Ms) (v : (Nat → Int32)) : Ms := (z.1, (z.2.1, (z.2.2.1, (((z.2.2.2.1.1.1, v), z.2.2.2.1.2), z.2.2.2.2))))
def Ms.snet (z : Ms) (v : Nat) : Ms := (z.1, (z.2.1, (z.2.2.1, ((z.2.2.2.1.1, v), z.2.2.2.2))))
def Ms.wet (z : Ms) (v : (Nat → Int32)) : Ms := (z.1, (z.2.1, (z.2.2.1, (z.2.2.2.1, ((v, z.2.2.2.2.1.2), z.2.2.2.2.2)))))
def Ms.snev (z : Ms) (v : Nat) : Ms := (z.1, (z.2.1, (z.2.2.1, (z.2.2.2.1, ((z.2.2.2.2.1.1, v), z.2.2.2.2.2)))))
def Ms.wev (z : Ms) (v : (Nat → Int64)) : Ms := (z.1, (z.2.1, (z.2.2.1, (z.2.2.2.1, (z.2.2.2.2.1, v)))))
def mw (cI cL cZ cB : ClassId) (q : Nat) (A : Nat → Nat) (z : Ms) : va_W :=
  [(q, .inr (4, [.int (Ms.thr z), .long (Ms.lim z), .int (Ms.eag z), .long (Ms.usd z), .long (Ms.gvb z), .long (Ms.old z), .int (Ms.col z), .ref (A 1), .ref (A 2), .int (Ms.mad z), .ref (A 3), .ref (A 4), .ref (A 5), .ref (A 6), .ref (A 7), .ref (A 8), .ref (A 9), .ref (A 10), .ref (A 11), .ref (A 12), .ref (A 13), .ref (A 14), .ref (A 15), .ref (A 16), .int (Ms.wrd z), .ref (A 17), .int (Ms.byc z), .ref (A 18), .ref (A 19), .ref (A 20), .ref (A 21), .int (Ms.ent z)])),
   (A 1, .inl (cI, Ms.ntg z, .inl (Ms.atg z))),
   (A 2, .inl (cL, Ms.nvl z, .inr (.inl (Ms.avl z)))),
   (A 3, .inl (cI, Ms.nso z, .inl (Ms.aso z))),
   (A 4, .inl (cI, Ms.nsi z, .inl (Ms.asi z))),
   (A 5, .inl (cI, Ms.nsr z, .inl (Ms.asr z))),
   (A 6, .inl (cI, Ms.nke z, .inl (Ms.ake z))),
   (A 7, .inl (cI, Ms.nva z, .inl (Ms.ava z))),
   (A 8, .inl (cI, Ms.nte z, .inl (Ms.ate z))),
   (A 9, .inl (cI, Ms.nca z, .inl (Ms.aca z))),
   (A 10, .inl (cI, Ms.nfi z, .inl (Ms.afi z))),
   (A 11, .inl (cI, Ms.nod z, .inl (Ms.aod z))),
   (A 12, .inl (cZ, Ms.nth z, .inl (Ms.ath z))),
   (A 13, .inl (cZ, Ms.nkp z, .inl (Ms.akp z))),
   (A 14, .inl (cZ, Ms.nre z, .inl (Ms.are z))),
   (A 15, .inl (cI, Ms.nwt z, .inl (Ms.awt z))),
   (A 16, .inl (cL, Ms.nwv z, .inr (.inl (Ms.awv z)))),
   (A 17, .inl (cB, Ms.nby z, .inl (Ms.aby z))),
   (A 18, .inl (cI, Ms.nem z, .inl (Ms.aem z))),
   (A 19, .inl (cI, Ms.neo z, .inl (Ms.aeo z))),
   (A 20, .inl (cI, Ms.net z, .inl (Ms.aet z))),
   (A 21, .inl (cL, Ms.nev z, .inr (.inl (Ms.aev z))))]
def mt (cI cL cZ cB : ClassId) : List (ClassId × FieldType) := [(cI, .int), (cL, .long), (cZ, .boolean), (cB, .byte)]
