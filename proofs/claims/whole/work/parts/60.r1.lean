/-! The reference over the abstract memory. -/
abbrev Gm : Type := (Nat) × (Nat → Nat) × (Nat) × (Nat)
def Gm.K (q : Gm) : Nat := q.1
def Gm.sr (q : Gm) : Nat → Nat := q.2.1
def Gm.wd (q : Gm) : Nat := q.2.2.1
def Gm.bc (q : Gm) : Nat := q.2.2.2
def Gm.s_K (q : Gm) (v : Nat) : Gm := (v, q.2.1, q.2.2.1, q.2.2.2)
def Gm.s_sr (q : Gm) (v : Nat → Nat) : Gm := (q.1, v, q.2.2.1, q.2.2.2)
def Gm.s_wd (q : Gm) (v : Nat) : Gm := (q.1, q.2.1, v, q.2.2.2)
def Gm.s_bc (q : Gm) (v : Nat) : Gm := (q.1, q.2.1, q.2.2.1, v)

def OmR (m : Ms) (q : Gm) (a : Ab) (n : Nat) : Prop :=
  (m.aso n = Int32.ofNat (a.kd n)) ∧
  (m.asi n = Int32.ofNat (a.ln n)) ∧
  (m.akp n = Int32.ofNat (a.fz n)) ∧
  (a.kd n = 2 → m.asr n = Int32.ofNat (q.sr n) ∧ q.sr n + a.ln n ≤ q.wd ∧ ∀ i, i < a.ln n → m.awt (q.sr n + i) = tgW (a.wo n i) ∧ m.awv (q.sr n + i) = vlW (a.wo n i)) ∧
  (a.kd n = 3 → m.asr n = Int32.ofNat (q.sr n) ∧ q.sr n + a.ln n ≤ q.bc ∧ ∀ i, i < a.ln n → m.aby (q.sr n + i) = vp_nar .byte (Int32.ofNat (a.bs n i))) ∧
  (a.kd n = 4 → m.ake n = Int32.ofNat (a.nk n) ∧ m.ava n = Int32.ofNat (a.nv n) ∧ m.ate n = Int32.ofNat (a.nt n) ∧ m.aca n = Int32.ofNat (a.nc n) ∧ m.afi n = Int32.ofNat (a.sl n).length ∧ m.aod n = Int32.ofNat (a.no n))
theorem OmR.so {m : Ms} {q : Gm} {a : Ab} {n : Nat} (hyp : OmR m q a n) : m.aso n = Int32.ofNat (a.kd n) := hyp.1
theorem OmR.si {m : Ms} {q : Gm} {a : Ab} {n : Nat} (hyp : OmR m q a n) : m.asi n = Int32.ofNat (a.ln n) := hyp.2.1
theorem OmR.kp {m : Ms} {q : Gm} {a : Ab} {n : Nat} (hyp : OmR m q a n) : m.akp n = Int32.ofNat (a.fz n) := hyp.2.2.1
theorem OmR.rw {m : Ms} {q : Gm} {a : Ab} {n : Nat} (hyp : OmR m q a n) : a.kd n = 2 → m.asr n = Int32.ofNat (q.sr n) ∧ q.sr n + a.ln n ≤ q.wd ∧ ∀ i, i < a.ln n → m.awt (q.sr n + i) = tgW (a.wo n i) ∧ m.awv (q.sr n + i) = vlW (a.wo n i) := hyp.2.2.2.1
theorem OmR.tx {m : Ms} {q : Gm} {a : Ab} {n : Nat} (hyp : OmR m q a n) : a.kd n = 3 → m.asr n = Int32.ofNat (q.sr n) ∧ q.sr n + a.ln n ≤ q.bc ∧ ∀ i, i < a.ln n → m.aby (q.sr n + i) = vp_nar .byte (Int32.ofNat (a.bs n i)) := hyp.2.2.2.2.1
theorem OmR.mp {m : Ms} {q : Gm} {a : Ab} {n : Nat} (hyp : OmR m q a n) : a.kd n = 4 → m.ake n = Int32.ofNat (a.nk n) ∧ m.ava n = Int32.ofNat (a.nv n) ∧ m.ate n = Int32.ofNat (a.nt n) ∧ m.aca n = Int32.ofNat (a.nc n) ∧ m.afi n = Int32.ofNat (a.sl n).length ∧ m.aod n = Int32.ofNat (a.no n) := hyp.2.2.2.2.2

def RMz (m : Ms) (q : Gm) : Prop :=
  (m.ntg = 16) ∧
  (m.nvl = 16) ∧
  (m.nso = q.K) ∧
  (m.nsi = q.K) ∧
  (m.nsr = q.K) ∧
  (m.nke = q.K) ∧
  (m.nva = q.K) ∧
  (m.nte = q.K) ∧
  (m.nca = q.K) ∧
  (m.nfi = q.K) ∧
  (m.nod = q.K) ∧
  (m.nth = q.K) ∧
  (m.nkp = q.K) ∧
  (m.nre = q.K) ∧
  (64 ≤ q.K ∧ q.K ≤ 4096) ∧
  (m.nwv = m.nwt) ∧
  (q.wd ≤ m.nwt ∧ 64 ≤ m.nwt ∧ m.nwt ≤ 131072) ∧
  (∃ j, m.nwt = 64 * 2 ^ j) ∧
  (q.bc ≤ m.nby ∧ 64 ≤ m.nby ∧ m.nby ≤ 1048576) ∧
  (∃ j, m.nby = 64 * 2 ^ j) ∧
  (m.neo = m.nem) ∧
  (m.net = 8 * m.nem) ∧
  (m.nev = 8 * m.nem) ∧
  (64 ≤ m.nem ∧ m.nem ≤ 4096) ∧
  (m.wrd = Int32.ofNat q.wd) ∧
  (m.byc = Int32.ofNat q.bc)
theorem RMz.tg {m : Ms} {q : Gm} (hyp : RMz m q) : m.ntg = 16 := hyp.1
theorem RMz.vl {m : Ms} {q : Gm} (hyp : RMz m q) : m.nvl = 16 := hyp.2.1
theorem RMz.so {m : Ms} {q : Gm} (hyp : RMz m q) : m.nso = q.K := hyp.2.2.1
theorem RMz.si {m : Ms} {q : Gm} (hyp : RMz m q) : m.nsi = q.K := hyp.2.2.2.1
theorem RMz.sr {m : Ms} {q : Gm} (hyp : RMz m q) : m.nsr = q.K := hyp.2.2.2.2.1
theorem RMz.ke {m : Ms} {q : Gm} (hyp : RMz m q) : m.nke = q.K := hyp.2.2.2.2.2.1
theorem RMz.va {m : Ms} {q : Gm} (hyp : RMz m q) : m.nva = q.K := hyp.2.2.2.2.2.2.1
theorem RMz.te {m : Ms} {q : Gm} (hyp : RMz m q) : m.nte = q.K := hyp.2.2.2.2.2.2.2.1
theorem RMz.ca {m : Ms} {q : Gm} (hyp : RMz m q) : m.nca = q.K := hyp.2.2.2.2.2.2.2.2.1
theorem RMz.fi {m : Ms} {q : Gm} (hyp : RMz m q) : m.nfi = q.K := hyp.2.2.2.2.2.2.2.2.2.1
theorem RMz.od {m : Ms} {q : Gm} (hyp : RMz m q) : m.nod = q.K := hyp.2.2.2.2.2.2.2.2.2.2.1
theorem RMz.th {m : Ms} {q : Gm} (hyp : RMz m q) : m.nth = q.K := hyp.2.2.2.2.2.2.2.2.2.2.2.1
theorem RMz.kp {m : Ms} {q : Gm} (hyp : RMz m q) : m.nkp = q.K := hyp.2.2.2.2.2.2.2.2.2.2.2.2.1
theorem RMz.re {m : Ms} {q : Gm} (hyp : RMz m q) : m.nre = q.K := hyp.2.2.2.2.2.2.2.2.2.2.2.2.2.1
theorem RMz.K {m : Ms} {q : Gm} (hyp : RMz m q) : 64 ≤ q.K ∧ q.K ≤ 4096 := hyp.2.2.2.2.2.2.2.2.2.2.2.2.2.2.1
theorem RMz.wt {m : Ms} {q : Gm} (hyp : RMz m q) : m.nwv = m.nwt := hyp.2.2.2.2.2.2.2.2.2.2.2.2.2.2.2.1
theorem RMz.wl {m : Ms} {q : Gm} (hyp : RMz m q) : q.wd ≤ m.nwt ∧ 64 ≤ m.nwt ∧ m.nwt ≤ 131072 := hyp.2.2.2.2.2.2.2.2.2.2.2.2.2.2.2.2.1
theorem RMz.wp {m : Ms} {q : Gm} (hyp : RMz m q) : ∃ j, m.nwt = 64 * 2 ^ j := hyp.2.2.2.2.2.2.2.2.2.2.2.2.2.2.2.2.2.1
theorem RMz.by {m : Ms} {q : Gm} (hyp : RMz m q) : q.bc ≤ m.nby ∧ 64 ≤ m.nby ∧ m.nby ≤ 1048576 := hyp.2.2.2.2.2.2.2.2.2.2.2.2.2.2.2.2.2.2.1
theorem RMz.bp {m : Ms} {q : Gm} (hyp : RMz m q) : ∃ j, m.nby = 64 * 2 ^ j := hyp.2.2.2.2.2.2.2.2.2.2.2.2.2.2.2.2.2.2.2.1
theorem RMz.eo {m : Ms} {q : Gm} (hyp : RMz m q) : m.neo = m.nem := hyp.2.2.2.2.2.2.2.2.2.2.2.2.2.2.2.2.2.2.2.2.1
theorem RMz.et {m : Ms} {q : Gm} (hyp : RMz m q) : m.net = 8 * m.nem := hyp.2.2.2.2.2.2.2.2.2.2.2.2.2.2.2.2.2.2.2.2.2.1
theorem RMz.ev {m : Ms} {q : Gm} (hyp : RMz m q) : m.nev = 8 * m.nem := hyp.2.2.2.2.2.2.2.2.2.2.2.2.2.2.2.2.2.2.2.2.2.2.1
theorem RMz.el {m : Ms} {q : Gm} (hyp : RMz m q) : 64 ≤ m.nem ∧ m.nem ≤ 4096 := hyp.2.2.2.2.2.2.2.2.2.2.2.2.2.2.2.2.2.2.2.2.2.2.2.1
theorem RMz.wrd {m : Ms} {q : Gm} (hyp : RMz m q) : m.wrd = Int32.ofNat q.wd := hyp.2.2.2.2.2.2.2.2.2.2.2.2.2.2.2.2.2.2.2.2.2.2.2.2.1
theorem RMz.byc {m : Ms} {q : Gm} (hyp : RMz m q) : m.byc = Int32.ofNat q.bc := hyp.2.2.2.2.2.2.2.2.2.2.2.2.2.2.2.2.2.2.2.2.2.2.2.2.2

def RMs (m : Ms) (a : Ab) : Prop :=
  (m.lim = Int64.ofNat a.lm) ∧
  (m.eag = a.eg) ∧
  (m.usd = Int64.ofNat a.us) ∧
  (m.gvb = Int64.ofNat a.gb) ∧
  (m.old = Int64.ofNat a.ol) ∧
  (m.col = a.co) ∧
  (m.mad = Int32.ofNat a.md)
theorem RMs.lim {m : Ms} {a : Ab} (hyp : RMs m a) : m.lim = Int64.ofNat a.lm := hyp.1
theorem RMs.eag {m : Ms} {a : Ab} (hyp : RMs m a) : m.eag = a.eg := hyp.2.1
theorem RMs.usd {m : Ms} {a : Ab} (hyp : RMs m a) : m.usd = Int64.ofNat a.us := hyp.2.2.1
theorem RMs.gvb {m : Ms} {a : Ab} (hyp : RMs m a) : m.gvb = Int64.ofNat a.gb := hyp.2.2.2.1
theorem RMs.old {m : Ms} {a : Ab} (hyp : RMs m a) : m.old = Int64.ofNat a.ol := hyp.2.2.2.2.1
theorem RMs.col {m : Ms} {a : Ab} (hyp : RMs m a) : m.col = a.co := hyp.2.2.2.2.2.1
theorem RMs.mad {m : Ms} {a : Ab} (hyp : RMs m a) : m.mad = Int32.ofNat a.md := hyp.2.2.2.2.2.2

def RMe (m : Ms) (a : Ab) : Prop :=
  (m.ent = Int32.ofNat a.el.length) ∧
  (a.el.length ≤ m.nem) ∧
  (∀ e, (h : e < a.el.length) → m.aem e = Int32.ofNat (a.el[e]).1) ∧
  (∀ e, (h : e < a.el.length) → m.aeo e = Int32.ofNat (a.el[e]).2.1) ∧
  (∀ e, (h : e < a.el.length) → ∀ i, i < a.nk (a.el[e]).1 + a.nv (a.el[e]).1 → m.aet (8 * e + i) = tgW ((a.el[e]).2.2 i) ∧ m.aev (8 * e + i) = vlW ((a.el[e]).2.2 i))
theorem RMe.ent {m : Ms} {a : Ab} (hyp : RMe m a) : m.ent = Int32.ofNat a.el.length := hyp.1
theorem RMe.le {m : Ms} {a : Ab} (hyp : RMe m a) : a.el.length ≤ m.nem := hyp.2.1
theorem RMe.mp {m : Ms} {a : Ab} (hyp : RMe m a) : ∀ e, (h : e < a.el.length) → m.aem e = Int32.ofNat (a.el[e]).1 := hyp.2.2.1
theorem RMe.od {m : Ms} {a : Ab} (hyp : RMe m a) : ∀ e, (h : e < a.el.length) → m.aeo e = Int32.ofNat (a.el[e]).2.1 := hyp.2.2.2.1
theorem RMe.wd {m : Ms} {a : Ab} (hyp : RMe m a) : ∀ e, (h : e < a.el.length) → ∀ i, i < a.nk (a.el[e]).1 + a.nv (a.el[e]).1 → m.aet (8 * e + i) = tgW ((a.el[e]).2.2 i) ∧ m.aev (8 * e + i) = vlW ((a.el[e]).2.2 i) := hyp.2.2.2.2

def RM (m : Ms) (q : Gm) (a : Ab) : Prop :=
  (RMs m a) ∧
  (RMz m q) ∧
  (a.md < q.K) ∧
  (∀ i, i < 16 → m.atg i = tgW (a.rg i) ∧ m.avl i = vlW (a.rg i)) ∧
  (∀ n, 1 ≤ n → n ≤ a.md → m.ath n = if a.th n = true then 1 else 0) ∧
  (∀ n, a.md < n → m.akp n = 0) ∧
  (∀ n, (m.akp n = 0 ∨ m.akp n = 1) ∧ (m.ath n = 0 ∨ m.ath n = 1)) ∧
  (∀ n, obj a n → OmR m q a n) ∧
  (∀ n k, obj a n → obj a k → n < k → a.kd n = a.kd k → a.kd n ≠ 4 → q.sr n + a.ln n ≤ q.sr k) ∧
  (q.wd = sumQ a.ln (fun n => a.th n && a.kd n == 2) a.md) ∧
  (q.bc = sumQ a.ln (fun n => a.th n && a.kd n == 3) a.md) ∧
  (RMe m a)
theorem RM.s {m : Ms} {q : Gm} {a : Ab} (hyp : RM m q a) : RMs m a := hyp.1
theorem RM.z {m : Ms} {q : Gm} {a : Ab} (hyp : RM m q a) : RMz m q := hyp.2.1
theorem RM.k {m : Ms} {q : Gm} {a : Ab} (hyp : RM m q a) : a.md < q.K := hyp.2.2.1
theorem RM.rg {m : Ms} {q : Gm} {a : Ab} (hyp : RM m q a) : ∀ i, i < 16 → m.atg i = tgW (a.rg i) ∧ m.avl i = vlW (a.rg i) := hyp.2.2.2.1
theorem RM.th {m : Ms} {q : Gm} {a : Ab} (hyp : RM m q a) : ∀ n, 1 ≤ n → n ≤ a.md → m.ath n = if a.th n = true then 1 else 0 := hyp.2.2.2.2.1
theorem RM.k0 {m : Ms} {q : Gm} {a : Ab} (hyp : RM m q a) : ∀ n, a.md < n → m.akp n = 0 := hyp.2.2.2.2.2.1
theorem RM.fl {m : Ms} {q : Gm} {a : Ab} (hyp : RM m q a) : ∀ n, (m.akp n = 0 ∨ m.akp n = 1) ∧ (m.ath n = 0 ∨ m.ath n = 1) := hyp.2.2.2.2.2.2.1
theorem RM.ob {m : Ms} {q : Gm} {a : Ab} (hyp : RM m q a) : ∀ n, obj a n → OmR m q a n := hyp.2.2.2.2.2.2.2.1
theorem RM.sr {m : Ms} {q : Gm} {a : Ab} (hyp : RM m q a) : ∀ n k, obj a n → obj a k → n < k → a.kd n = a.kd k → a.kd n ≠ 4 → q.sr n + a.ln n ≤ q.sr k := hyp.2.2.2.2.2.2.2.2.1
theorem RM.ws {m : Ms} {q : Gm} {a : Ab} (hyp : RM m q a) : q.wd = sumQ a.ln (fun n => a.th n && a.kd n == 2) a.md := hyp.2.2.2.2.2.2.2.2.2.1
theorem RM.bs {m : Ms} {q : Gm} {a : Ab} (hyp : RM m q a) : q.bc = sumQ a.ln (fun n => a.th n && a.kd n == 3) a.md := hyp.2.2.2.2.2.2.2.2.2.2.1
theorem RM.e {m : Ms} {q : Gm} {a : Ab} (hyp : RM m q a) : RMe m a := hyp.2.2.2.2.2.2.2.2.2.2.2

