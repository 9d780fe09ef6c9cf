/- Part 99: both searches find the same route, the end. -/
theorem car_eq {S : CS} {A : MS} {j r : Nat} (hj : j < kC S) (C : Cpl S A) (hr : r < 2) (a : Int32) : mcarr A j (kw S j 5) r a.toInt64 = ccarC S j (nI (kw S j r)) a := by
  have cc := C.2.2.1.2.2.1 _ hj
  have hb := C.2.2.2.2.2.2 j hj
  have hc := cc.car hr a
  have e : mcarr A j (kw S j 5) r a.toInt64 = true ↔ ccarC S j (nI (kw S j r)) a = true := by
    rw [hc]
    unfold mcarr
    rw [decide_eq_true_eq, cc.2.2.1.1, show A.2.2 11 (64 * j + kw S j 5) = mnow A j (kw S j 5) from rfl, cc.bits.1, cc.balr hr, i64_lt, ← le_nlt, show nI (cnt (pin S j (kw S j 5)) (kn S j)) < 6 ↔ cnt (pin S j (kw S j 5)) (kn S j) < 6 from xn_lt (n := 6) (by omega) (by decide)]
    exact ⟨fun ⟨h1, h2, h3⟩ => ⟨h1, h3, h2⟩, fun ⟨h1, h2, h3⟩ => ⟨h1, h3, h2⟩⟩
  cases h1 : mcarr A j (kw S j 5) r a.toInt64 with
  | true => exact (e.mp h1).symm
  | false =>
    cases h2 : ccarC S j (nI (kw S j r)) a with
    | true => rw [e.mpr h2] at h1; cases h1
    | false => rfl
theorem ok_eq {S : CS} {A : MS} {i : Nat} (C : Cpl S A) (hi : i < kC S) {to a ps : Int32} {T : SP} (hm : pmask ps (svis to T)) : cokb S (shd to T) a ps i = sokb A (fun i => kw S i 5) to a.toInt64 T i ∧ (cokb S (shd to T) a ps i = true → a.toInt ≤ 12000000 ∧ ∃ p, p < 6 ∧ cpay S i (shd to T) = nI p ∧ spay A i (shd to T) = nI p) := by
  have cc := C.2.2.1.2.2.1 _ hi
  have hs := cc.1.sided (shd to T)
  unfold cokb sokb
  by_cases h : shd to T = nI (kw S i 0) ∨ shd to T = nI (kw S i 1)
  · obtain ⟨r, r1, r2, r3, r4, r5, r6⟩ := cc.1.r h
    have t := cc.1.two
    have hp : kw S i (1 - r) < 6 := by
      rcases Nat.lt_or_ge r 1 with z | z
      · rw [show 1 - r = 1 by omega]
        exact t.2
      · rw [show 1 - r = 0 by omega]
        exact t.1
    have hne : nI (kw S i 1) ≠ nI (kw S i 0) := fun z => cc.1.2.2.2.2 ((xn_inj (by omega) (by omega)).mp z).symm
    have e1 : cpay S i (shd to T) = nI (kw S i (1 - r)) := by
      unfold cpay
      rw [r2]
      rcases Nat.lt_or_ge r 1 with z | z
      · rw [show r = 0 by omega, if_pos rfl]
      · rw [show r = 1 by omega, if_neg hne]
    have e2 : spay A i (shd to T) = nI (kw S i (1 - r)) := by
      unfold spay
      rw [r4, xn_flip r1]
      unfold mnode
      rw [cc.1.1, cc.1.2.1]
      rcases Nat.lt_or_ge r 1 with z | z
      · rw [show r = 0 by omega, if_neg (by decide)]
      · rw [show r = 1 by omega, if_pos (by decide)]
    rw [e1, e2, r5]
    have hd1 : decide (shd to T = nI (S.2.2.1 (21, i, 0) 0) ∨ shd to T = nI (S.2.2.1 (21, i, 0) 1)) = true := decide_eq_true h
    have hd2 : decide (¬ mside A i (shd to T) = -1) = true := decide_eq_true (hs.mpr h)
    rw [hd1, hd2, Bool.true_and, Bool.true_and, car_eq hi C (by omega)]
    have hk := hm _ hp
    have hd3 : decide ((ps >>> (nI (kw S i (1 - r)) &&& 31)) &&& 1 = 0) = snot (nI (kw S i (1 - r))) (svis to T) := by
      cases hx : snot (nI (kw S i (1 - r))) (svis to T) with
      | true => exact decide_eq_true (hk.mpr hx)
      | false => exact decide_eq_false (fun z => by rw [hk.mp z] at hx; cases hx)
    rw [hd3]
    refine ⟨Bool.and_comm _ _, fun z => ⟨?_, kw S i (1 - r), hp, rfl, rfl⟩⟩
    have z2 := (Bool.and_eq_true_iff.mp z).2
    have z3 := ((cc.car (show 1 - r < 2 by omega) a).mp z2).2.1
    have := Int32.le_iff_toInt_le.mp z3
    have := kbal_le (r := 1 - r) cc
    omega
  · have hd1 : decide (shd to T = nI (S.2.2.1 (21, i, 0) 0) ∨ shd to T = nI (S.2.2.1 (21, i, 0) 1)) = false := decide_eq_false h
    have hd2 : decide (¬ mside A i (shd to T) = -1) = false := decide_eq_false (fun z => h (hs.mp z))
    rw [hd1, hd2]
    exact ⟨rfl, fun z => by cases z⟩
theorem go_eq {S : CS} {A : MS} (C : Cpl S A) {fr to : Int32} : ∀ (k : Nat) (a ps : Int32) (T B : SP), 0 ≤ a.toInt → pmask ps (svis to T) → cgo S fr k (shd to T) a ps T B = sgo A (fun i => kw S i 5) (kC S) fr to k a.toInt64 T B
  | 0, _, _, _, _, _, _ => rfl
  | k + 1, a, ps, T, B, h0, hm => by
    unfold cgo sgo
    refine sloop_ext _ 0 B (fun i B' _ hi => ?_)
    have hi' : i < kC S := by
      have : i < 0 + kC S := hi
      omega
    obtain ⟨e1, e2⟩ := ok_eq C hi' (a := a) hm
    unfold cone sone
    rw [← e1]
    by_cases h : cokb S (shd to T) a ps i = true
    · rw [if_pos h, if_pos h]
      obtain ⟨ha, p, hp, p1, p2⟩ := e2 h
      rw [p1, p2]
      obtain ⟨f1, f2, f3⟩ := fee_eq C hp h0 ha
      have := go_eq C (fr := fr) (to := to) k (a + cfee S (nI p) a) (ps ||| ((1 : Int32) <<< (nI p &&& 31))) ((i, nI p, a.toInt64) :: T) B' (Int.le_trans h0 f2) (hm.cons hp)
      rw [f1] at this
      rw [show cgo S fr k (nI p) (a + cfee S (nI p) a) (ps ||| ((1 : Int32) <<< (nI p &&& 31))) ((i, nI p, a.toInt64) :: T) B' = _ from this]
    · rw [if_neg h, if_neg h]
/-- the routes are the same -/
theorem res_eq {S : CS} {A : MS} (C : Cpl S A) {fr to am : Int32} (ht : nd to = true) (ha : 0 ≤ am.toInt) : cres S fr to am = sres A (fun i => kw S i 5) (kC S) fr to am := by
  unfold cres sres
  obtain ⟨t1, t2⟩ := nd_of ht
  refine go_eq C 5 am _ [] [] ha ?_
  show pmask _ [to]
  rw [t1]
  exact pmask.one t2
theorem Cpl.sOK {S : CS} {A : MS} (C : Cpl S A) : sOK A (fun i => kw S i 5) (kC S) := by
  obtain ⟨x1, x2, x3, x4, x5, x6, x7⟩ := C
  refine ⟨x3.1, x3.2.1, fun i hi => ⟨(x3.2.2.1 i hi).2.1.1, (x3.2.2.1 i hi).2.1.2.1⟩, fun i hi => ?_, fun p hp => ?_⟩
  · have c1 := (x3.2.2.1 i hi).1
    exact ⟨_, _, c1.two.1, c1.two.2, c1.1, c1.2.1⟩
  · have := x1.2.2.2.2.2.2 p hp
    exact ⟨this.1, this.2.2.1, this.2.2.2⟩
/-- a new route is found: nothing else changes -/
theorem Cpl.rout {S S' : CS} {A A' : MS} {B : SP} (C : Cpl S A) (hS : cSame S S') (hA : sSame A A') (hb : bestB S' B) (hB : RepB A'.1 (A'.2.1 25) B) : Cpl S' A' := by
  obtain ⟨x1, x2, x3, x4, x5, x6, x7⟩ := C
  have s : sk (fun k => 11 ≤ k ∧ k ≤ 18) S S' := fun r hr => hS.1 r (by omega)
  have a : ak (fun j => j = 28 ∨ j = 30) (fun k => k = 25 ∨ k = 26 ∨ k = 27 ∨ k = 28) A A' := ⟨fun j hj => hA.1 j (by omega) (by omega), fun k hk => ⟨hA.2.1 k (by omega) (by omega) (by omega), hA.2.2 k (by omega)⟩⟩
  have z := hS.2
  have hC : kC S' = kC S := by
    unfold kC
    rw [z]
  have hn : ∀ c, kn S' c = kn S c := fun c => by
    unfold kn
    rw [z]
  exact ⟨x1.fr s a (fun k h => by omega) (by decide) (fun k h1 h2 => by omega), x2.fr s a (by decide) (by decide) (by decide), x3.all hC (a.1 7 (by decide)) (fun j => sk_chS s (fun k h1 h2 => by omega) (fun j => by rw [z]) j) (fun j => ak_chM a (fun k h1 h2 => by omega) j), x4.fr ((s (1, 0, 0) (by decide)).1) hC (fun j _ => by unfold kf; rw [(s (21, j, 0) (by show ¬ (11 ≤ 21 ∧ 21 ≤ 18); omega)).1]), x5.fr (mon_sk s (fun k h => by omega) (Nat.le_of_eq hC.symm) (fun c => Nat.le_of_eq (hn c).symm)) s (by rw [z]) (fun p => by rw [z]) a (fun k h1 h2 => by omega) (by decide) (fun k h1 h2 => by omega), ⟨B, hb, hB⟩, x7.all hC (fun j => sk_chS s (fun k h1 h2 => by omega) (fun j => by rw [z]) j)⟩
theorem ends_eq (f t a : Int32) : tRoute f t a = cd [8, 9] (eEnds f t a) := by
  unfold tRoute eEnds
  split
  · split <;> rfl
  · rfl
theorem ends_of {f t a : Int32} (h : eEnds f t a = none) : nd f = true ∧ nd t = true ∧ ispr f t a = true ∧ 0 ≤ a.toInt := by
  unfold eEnds at h
  by_cases h1 : nd f = true ∧ nd t = true
  · rw [if_pos h1] at h
    by_cases h2 : ispr f t a = true
    · have := (of_decide_eq_true h2).2.1
      have : (1 : Int32).toInt ≤ a.toInt := Int32.le_iff_toInt_le.mp this
      have e : (1 : Int32).toInt = 1 := rfl
      exact ⟨h1.1, h1.2, h2, by omega⟩
    · rw [if_neg h2] at h
      cases h
  · rw [if_neg h1] at h
    cases h
