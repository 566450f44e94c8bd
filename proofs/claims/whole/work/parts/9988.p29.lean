/-! A table renewed: the reference. -/
def ncap (a : Ab) (n : Nat) : Nat := if 4 * (ens (a.sl n)).length < 3 * a.nc n then a.nc n else 2 * a.nc n
theorem ncap_b {a : Ab} {n : Nat} (m : okM a n) : 8 ≤ ncap a n ∧ ncap a n ≤ 65536 ∧ 1 + ncap a n * (3 + a.nk n + a.nv n) ≤ 300000 ∧ (ens (a.sl n)).length < ncap a n := by
  have h1 := m.nc
  have h2 := nc_le m
  have h3 := m.tb
  have h4 := m.sl
  have h5 : (ens (a.sl n)).length ≤ (a.sl n).length := by unfold ens; exact List.length_filterMap_le _ _
  unfold ncap
  split
  · refine ⟨h1, by omega, by omega, by omega⟩
  · refine ⟨by omega, by omega, ?_, by omega⟩
    rw [Nat.mul_assoc]
    omega
theorem md_tableOf_f {m : Ms} {n K nk nv x : Nat} (h1 : m.nke = K) (h2 : m.nva = K) (hn : n < K) (hK : K ≤ 4096) (h3 : m.ake n = Int32.ofNat nk) (h4 : m.ava n = Int32.ofNat nv) (hk : nk ≤ 4) (hv : nv ≤ 4) : md_tableOf m (Int32.ofNat n) (Int64.ofNat x) = some (Int64.ofNat (1 + x * (3 + nk + nv))) := by
  have e3 : (3 : Int32) + Int32.ofNat nk = Int32.ofNat (3 + nk) := q_add 3 _
  have e1 : Int64.ofNat (x * (3 + nk + nv)) + 1 = Int64.ofNat (1 + x * (3 + nk + nv)) := by
    rw [Nat.add_comm 1]
    exact l_add _ 1
  unfold md_tableOf
  rw [h1, h2, q_inb hn (by omega), gdT, gdT, q_nat (by omega), h3, h4, e3, q_add, q_64 (by omega), l_mul, e1]
theorem RM_use {m : Ms} {q : Gm} {b : Ab} {n cap T ol2 : Nat} (R : RM m q b) (k4 : b.kd n = 4) : RM (Ms.wfi (Ms.wca (Ms.sold (Ms.susd m (Int64.ofNat (b.us + T))) (Int64.ofNat ol2)) (upd m.aca n (Int32.ofNat cap))) (upd m.afi n (Int32.ofNat (ens (b.sl n)).length))) q (useA (orpA b T) n cap ol2) := by
  refine ⟨⟨R.s.lim, R.s.eag, rfl, R.s.gvb, rfl, R.s.col, R.s.mad⟩, R.z, R.k, R.rg, R.th, R.k0, R.fl, ?_, R.sr, R.ws, R.bs, R.e⟩
  intro k hk
  have O := R.ob k hk
  by_cases hkn : k = n
  · subst hkn
    have M := O.mp k4
    refine ⟨O.so, O.si, O.kp, O.rw, O.tx, fun _ => ⟨M.1, M.2.1, M.2.2.1, ?_, ?_, M.2.2.2.2.2⟩⟩
    · show upd m.aca k (Int32.ofNat cap) k = Int32.ofNat (updN b.nc k cap k)
      rw [updN_s]
      exact if_pos rfl
    · show upd m.afi k (Int32.ofNat (ens (b.sl k)).length) k = Int32.ofNat (updN b.sl k ((ens (b.sl k)).map some) k).length
      rw [updN_s, List.length_map]
      exact if_pos rfl
  · refine ⟨O.so, O.si, O.kp, O.rw, O.tx, fun kk => ?_⟩
    have M := O.mp kk
    refine ⟨M.1, M.2.1, M.2.2.1, ?_, ?_, M.2.2.2.2.2⟩
    · show upd m.aca n (Int32.ofNat cap) k = Int32.ofNat (updN b.nc n cap k)
      rw [updN_o _ _ hkn]
      exact (if_neg hkn).trans M.2.2.2.1
    · show upd m.afi n (Int32.ofNat (ens (b.sl n)).length) k = Int32.ofNat (updN b.sl n ((ens (b.sl n)).map some) k).length
      rw [updN_o _ _ hkn]
      exact (if_neg hkn).trans M.2.2.2.2.1
theorem renewM {m : Ms} {q : Gm} {a : Ab} {n i p cap T : Nat} (R : RM m q a) (A : AI a) (hi : i < 16) (gi : a.rg i = .inr (n, p)) (on : obj a n) (k4 : a.kd n = 4) (ht : m.thr = 0) (full : a.nc n ≤ (a.sl n).length) (hcap : cap = ncap a n) (hT : T = 1 + cap * (3 + a.nk n + a.nv n)) :
    ((roomA a T).us + T ≤ a.lm → ∃ m2 q2, md_renews m (Int32.ofNat n) = some (m2, 1) ∧ RM m2 q2 (useA (orpA (roomA a T) T) n cap ((roomA a T).ol + (1 + a.nc n * (3 + a.nk n + a.nv n)))) ∧ m2.thr = 0 ∧ PM m2 = PM m) ∧
    (¬ ((roomA a T).us + T ≤ a.lm) → ∃ m2 q2, md_renews m (Int32.ofNat n) = some (m2, 0) ∧ RM m2 q2 (roomA a T) ∧ PM m2 = PM m) := by
  have okm := A.mp on k4
  obtain ⟨cb1, cb2, cb3, cb4⟩ := ncap_b okm
  rw [← hcap] at cb1 cb2 cb3 cb4
  rw [← hT] at cb3
  have nk := okm.nk
  have nv := okm.nv
  have ncl := nc_le okm
  have hsl := okm.sl
  have hcnt : (ens (a.sl n)).length ≤ (a.sl n).length := by unfold ens; exact List.length_filterMap_le _ _
  have Z := R.z
  have zk := Z.K
  have hK := R.k
  have hn := on.2.1
  have M := (R.ob n on).mp k4
  obtain ⟨m1, q1, e1, R1, th1, p1⟩ := RM_room (n := T) R A cb3 ht
  obtain ⟨rm1, rm2, rm3, rm4⟩ := roomA_md (a := a) (n := T)
  obtain ⟨on1, E1⟩ := room_ob (T := T) hi gi on
  have e4 : (4 : Int32) * Int32.ofNat (ens (a.sl n)).length = Int32.ofNat (4 * (ens (a.sl n)).length) := q_mul 4 _
  have e3 : (3 : Int32) * Int32.ofNat (a.nc n) = Int32.ofNat (3 * a.nc n) := q_mul 3 _
  have e2 : (2 : Int32) * Int32.ofNat (a.nc n) = Int32.ofNat (2 * a.nc n) := q_mul 2 _
  have st : md_renews m (Int32.ofNat n) = md_renews_j54 (Int32.ofNat n) (Int32.ofNat (ens (a.sl n)).length) (Int32.ofNat cap) m := by
    unfold md_renews
    rw [Z.fi, Z.ca, q_inb (show n < q.K by omega) (by omega), gdT, gdT, q_nat (show n < 2147483648 by omega), M.2.2.2.1, M.2.2.2.2.1, if_pos ((q_le (by omega) (by omega)).mpr full), md_entriesOf_e R A on k4, PB.2.1, gdT, e4, e3, e2, gdT, gdT, hcap]
    unfold ncap
    by_cases h : 4 * (ens (a.sl n)).length < 3 * a.nc n
    · rw [if_pos ((q_lt (by omega) (by omega)).mpr h), if_pos h]
    · rw [if_neg (fun d => h ((q_lt (by omega) (by omega)).mp d)), if_neg h]
  obtain ⟨X, hX⟩ : ∃ X, X = md_renews_j54 (Int32.ofNat n) (Int32.ofNat (ens (a.sl n)).length) (Int32.ofNat cap) m := ⟨_, rfl⟩
  have st := st.trans hX.symm
  unfold md_renews_j54 at hX
  rw [q_64 (show cap < 2147483648 by omega), md_tableOf_f (x := cap) Z.ke Z.va (show n < q.K by omega) (by omega) M.1 M.2.1 nk.2 nv, PB.2.1, ← hT, e1] at hX
  constructor
  · intro room
    have Z1 := R1.z
    have zk1 := Z1.K
    have hK1 := R1.k
    have hn1 := on1.2.1
    have M1 := (R1.ob n on1).mp (E1.kd.trans k4)
    have ca1 : Ms.aca (Ms.susd m1 (Int64.ofNat ((roomA a T).us + T))) n = Int32.ofNat (a.nc n) := by rw [← E1.nc]; exact M1.2.2.2.1
    have hta : md_tableOf (Ms.susd m1 (Int64.ofNat ((roomA a T).us + T))) (Int32.ofNat n) (Int64.ofNat (a.nc n)) = some (Int64.ofNat (1 + a.nc n * (3 + a.nk n + a.nv n))) := md_tableOf_f (m := Ms.susd m1 (Int64.ofNat ((roomA a T).us + T))) (K := q1.K) Z1.ke Z1.va (by omega) (by omega) (by rw [← E1.nk]; exact M1.1) (by rw [← E1.nv]; exact M1.2.1) nk.2 nv
    have nca1 : Ms.nca (Ms.susd m1 (Int64.ofNat ((roomA a T).us + T))) = q1.K := Z1.ca
    have nfi1 : Ms.nfi (Ms.susd m1 (Int64.ofNat ((roomA a T).us + T))) = q1.K := Z1.fi
    have old1 : Ms.old (Ms.susd m1 (Int64.ofNat ((roomA a T).us + T))) = Int64.ofNat (roomA a T).ol := R1.s.old
    rw [if_pos room, PB.2.2.2.2.1, if_neg ne10, nca1, nfi1, q_inb (show n < q1.K by omega) (by omega), gdT, q_nat (show n < 2147483648 by omega), ca1, q_64 (show a.nc n < 2147483648 by omega), hta, PB.2.1, gdT, gdT, old1, l_add] at hX
    have U := RM_use (cap := cap) (T := T) (ol2 := (roomA a T).ol + (1 + a.nc n * (3 + a.nk n + a.nv n))) R1 (E1.kd.trans k4)
    rw [E1.sl] at U
    exact ⟨_, q1, st.trans hX, U, th1, p1⟩
  · intro room
    rw [if_neg room, PB.2.2.2.2.1, if_pos rfl] at hX
    exact ⟨m1, q1, st.trans hX, R1, p1⟩
