/- Part 55: where the class's objects lie and what they hold. -/
/-- an object of the class: its kind, a channel's or payment's number, a promise's number -/
abbrev RO : Type := Nat × Nat × Nat
/-- ints, longs, small numbers, sizes of lists (size, room) and of a payment's arrays -/
abbrev CS : Type := (RO → Nat → Int32) × (RO → Nat → Int64) × (RO → Nat → Nat) × (RO → Nat → Nat)
def bZ (x : Int32) : Bool := decide (x ≠ 0)
def kArr (z q : Nat → Nat) : XC := .inl (false, .object "java/lang/Object", z 1, .inr (.inr (.inr (.inr (fun i => if i < z 0 then some (q i) else none)))))
def kLst (z : Nat → Nat) (dc e : Nat) (mo : Int32) : XC := .inr (2, [.ref (if z 1 = 0 then dc else e), .int (nI (z 0)), .int mo])
/-- 0 net; 1 coins, 2 base, 3 parts, 4 delta, 5 watching; 6 secrets, 7 locks, 8 knowers; 9 channels, 10 payments; 11 latestRoute (12 channels, 13 payers, 14 amounts), 15 trail (16 .. 18); 19, 20 the lists' arrays; 21 a channel, 22, 23 its balances, 24 its promises, 25 their array; 26 a promise; 27 a payment, 28 channels, 29 payers, 30 amounts, 31 deadlines, 32 promises -/
def kcell (E : RO → Nat) (dc : Nat) (z : RO → Nat → Nat) (r : RO) (f : Nat → Int32) (g : Nat → Int64) (w : Nat → Nat) : XC := match r.1 with
  | 0 => .inr (0, neF (E (1, 0, 0)) (E (2, 0, 0)) (E (3, 0, 0)) (E (4, 0, 0)) (E (5, 0, 0)) (E (6, 0, 0)) (E (9, 0, 0)) (E (10, 0, 0)) (E (11, 0, 0)) (E (15, 0, 0)) (f 0))
  | 1 => .inl (false, .int, 6, .inl f)
  | 2 => .inl (false, .int, 6, .inl f)
  | 3 => .inl (false, .int, 6, .inl f)
  | 4 => .inl (false, .int, 6, .inl f)
  | 5 => .inl (false, .boolean, 6, .inl f)
  | 6 => .inr (1, [.ref (E (7, 0, 0)), .ref (E (8, 0, 0)), .int (nI (w 0))])
  | 7 => .inl (false, .long, 24, .inr (.inl g))
  | 8 => .inl (false, .int, 24, .inl f)
  | 9 => kLst (z (9, 0, 0)) dc (E (19, 0, 0)) (f 0)
  | 10 => kLst (z (10, 0, 0)) dc (E (20, 0, 0)) (f 0)
  | 11 => .inr (3, roF (E (12, 0, 0)) (E (13, 0, 0)) (E (14, 0, 0)) (nI (w 0)))
  | 15 => .inr (3, roF (E (16, 0, 0)) (E (17, 0, 0)) (E (18, 0, 0)) (nI (w 0)))
  | 19 => kArr (z (9, 0, 0)) (fun i => E (21, i, 0))
  | 20 => kArr (z (10, 0, 0)) (fun i => E (27, i, 0))
  | 21 => .inr (4, chF (nI (w 0)) (nI (w 1)) (E (22, r.2.1, 0)) (E (23, r.2.1, 0)) (E (24, r.2.1, 0)) (nI (w 5)) (f 6) (f 7) (f 8) (f 9) (f 10) (bZ (f 11)))
  | 22 => .inl (false, .int, 64, .inl f)
  | 23 => .inl (false, .int, 64, .inl f)
  | 24 => kLst (z (24, r.2.1, 0)) dc (E (25, r.2.1, 0)) (f 0)
  | 25 => kArr (z (24, r.2.1, 0)) (fun i => E (26, r.2.1, i))
  | 26 => .inr (5, prF (nI (w 0)) (nI (w 1)) (f 2) (g 0) (f 4) (f 5) (f 6) (bZ (f 7)))
  | 27 => .inr (6, pyF (nI (w 0)) (g 0) (nI (z (27, r.2.1, 0) 0)) (E (28, r.2.1, 0)) (E (29, r.2.1, 0)) (E (30, r.2.1, 0)) (E (31, r.2.1, 0)) (E (32, r.2.1, 0)) (f 8) (f 9) (nI (w 10)) (nI (w 11)) (f 12))
  | 28 => .inl (false, .int, z (27, r.2.1, 0) 0, .inl f)
  | 29 => .inl (false, .int, z (27, r.2.1, 0) 0, .inl f)
  | 30 => .inl (false, .int, z (27, r.2.1, 0) 0, .inl f)
  | 31 => .inl (false, .int, z (27, r.2.1, 0) 0, .inl f)
  | 32 => .inl (false, .int, z (27, r.2.1, 0) 0, .inl f)
  | _ => .inl (false, .int, 5, .inl f)
/-- the objects that there are -/
def kV (z : RO → Nat → Nat) (r : RO) : Prop := match r.1 with
  | 19 => r.2 = (0, 0) ∧ 0 < z (9, 0, 0) 1
  | 20 => r.2 = (0, 0) ∧ 0 < z (10, 0, 0) 1
  | 21 => r.2.1 < z (9, 0, 0) 0 ∧ r.2.2 = 0
  | 22 => r.2.1 < z (9, 0, 0) 0 ∧ r.2.2 = 0
  | 23 => r.2.1 < z (9, 0, 0) 0 ∧ r.2.2 = 0
  | 24 => r.2.1 < z (9, 0, 0) 0 ∧ r.2.2 = 0
  | 25 => r.2.1 < z (9, 0, 0) 0 ∧ r.2.2 = 0 ∧ 0 < z (24, r.2.1, 0) 1
  | 26 => r.2.1 < z (9, 0, 0) 0 ∧ r.2.2 < z (24, r.2.1, 0) 0
  | 27 => r.2.1 < z (10, 0, 0) 0 ∧ r.2.2 = 0
  | 28 => r.2.1 < z (10, 0, 0) 0 ∧ r.2.2 = 0
  | 29 => r.2.1 < z (10, 0, 0) 0 ∧ r.2.2 = 0
  | 30 => r.2.1 < z (10, 0, 0) 0 ∧ r.2.2 = 0
  | 31 => r.2.1 < z (10, 0, 0) 0 ∧ r.2.2 = 0
  | 32 => r.2.1 < z (10, 0, 0) 0 ∧ r.2.2 = 0
  | k => k < 19 ∧ r.2 = (0, 0)
/-- the rooms that a list comes to have -/
def capOK (c : Nat) : Prop := c = 0 ∨ c = 10 ∨ c = 15 ∨ c = 22 ∨ c = 33 ∨ c = 49 ∨ c = 73
theorem capOK.le {c : Nat} (h : capOK c) : c ≤ 1024 := by
  unfold capOK at h
  omega
/-- lists have room for their elements -/
def kW (z : RO → Nat → Nat) : Prop := (z (9, 0, 0) 0 ≤ z (9, 0, 0) 1 ∧ capOK (z (9, 0, 0) 1)) ∧ (z (10, 0, 0) 0 ≤ z (10, 0, 0) 1 ∧ capOK (z (10, 0, 0) 1)) ∧ ∀ j, j < z (9, 0, 0) 0 → z (24, j, 0) 0 ≤ z (24, j, 0) 1 ∧ capOK (z (24, j, 0) 1)
def kDc (K : Nat → Option XC) (dc : Nat) : Prop := ∃ g0 : Nat → Option Nat, K dc = some (.inl (true, .object "java/lang/Object", 0, .inr (.inr (.inr (.inr g0)))))
/-- the heap h holds the class's objects as S says, at the places E; and what K says, elsewhere -/
def Rep (E : RO → Nat) (dc : Nat) (S : CS) (K : Nat → Option XC) (h : XH) : Prop :=
  (∀ r, kV S.2.2.2 r → xget h (E r) = some (kcell E dc S.2.2.2 r (S.1 r) (S.2.1 r) (S.2.2.1 r))) ∧ (∀ r r', kV S.2.2.2 r → kV S.2.2.2 r' → E r = E r' → r = r') ∧ (∀ q c, K q = some c → xget h q = some c ∧ ∀ r, kV S.2.2.2 r → E r ≠ q) ∧ kDc K dc ∧ kW S.2.2.2
def cset (S : CS) (r : RO) (f : Nat → Int32) (g : Nat → Int64) (w : Nat → Nat) : CS := (fun q => if q = r then f else S.1 q, fun q => if q = r then g else S.2.1 q, fun q => if q = r then w else S.2.2.1 q, S.2.2.2)
def cfI (S : CS) (r : RO) (i : Nat) (x : Int32) : CS := cset S r (upd (S.1 r) i x) (S.2.1 r) (S.2.2.1 r)
def cfJ (S : CS) (r : RO) (i : Nat) (x : Int64) : CS := cset S r (S.1 r) (vp_updL (S.2.1 r) i x) (S.2.2.1 r)
def cfN (S : CS) (r : RO) (i : Nat) (x : Nat) : CS := cset S r (S.1 r) (S.2.1 r) (fun k => if k = i then x else S.2.2.1 r k)
section X55
variable {E : RO → Nat} {dc : Nat} {S : CS} {K : Nat → Option XC} {h : XH} {r : RO}
theorem Rep.put (R : Rep E dc S K h) (hv : kV S.2.2.2 r) (f : Nat → Int32) (g : Nat → Int64) (w : Nat → Nat) : Rep E dc (cset S r f g w) K (xput h (E r) (kcell E dc S.2.2.2 r f g w)) := by
  refine ⟨fun q hq => ?_, R.2.1, fun q c hq => ?_, R.2.2.2⟩
  · by_cases e : q = r
    · subst e
      rw [xput_get]
      show _ = some (kcell E dc S.2.2.2 q (if q = q then f else S.1 q) (if q = q then g else S.2.1 q) (if q = q then w else S.2.2.1 q))
      rw [if_pos rfl, if_pos rfl, if_pos rfl]
    · rw [xput_ne (fun z => e (R.2.1 q r hq hv z))]
      show _ = some (kcell E dc S.2.2.2 q (if q = r then f else S.1 q) (if q = r then g else S.2.1 q) (if q = r then w else S.2.2.1 q))
      rw [if_neg e, if_neg e, if_neg e]
      exact R.1 q hq
  · obtain ⟨h1, h2⟩ := R.2.2.1 q c hq
    refine ⟨?_, h2⟩
    rw [xput_ne (fun z => h2 r hv z.symm)]
    exact h1
/-- a new object that is not one of the class's -/
theorem Rep.new0 (R : Rep E dc S K h) (hl : ∀ (a : Nat) (c : XC), xget h a = some c → a < h.1) {c : XC} {n : Nat} : Rep E dc S K (xnew h c n) := by
  refine ⟨fun q hq => ?_, R.2.1, fun q c hq => ?_, R.2.2.2⟩
  · rw [xnew_ne (by have := hl _ _ (R.1 q hq); omega)]
    exact R.1 q hq
  · obtain ⟨h1, h2⟩ := R.2.2.1 q c hq
    refine ⟨?_, h2⟩
    rw [xnew_ne (by have := hl _ _ h1; omega)]
    exact h1
theorem Rep.fixed (R : Rep E dc S K h) {k : Nat} (hv : kV S.2.2.2 (k, 0, 0)) : xget h (E (k, 0, 0)) = some (kcell E dc S.2.2.2 (k, 0, 0) (S.1 (k, 0, 0)) (S.2.1 (k, 0, 0)) (S.2.2.1 (k, 0, 0))) := R.1 _ hv
theorem kV_0 {z : RO → Nat → Nat} : kV z (0, 0, 0) := ⟨by decide, rfl⟩
theorem kV_1 {z : RO → Nat → Nat} : kV z (1, 0, 0) := ⟨by decide, rfl⟩
theorem kV_2 {z : RO → Nat → Nat} : kV z (2, 0, 0) := ⟨by decide, rfl⟩
theorem kV_3 {z : RO → Nat → Nat} : kV z (3, 0, 0) := ⟨by decide, rfl⟩
theorem kV_4 {z : RO → Nat → Nat} : kV z (4, 0, 0) := ⟨by decide, rfl⟩
theorem kV_5 {z : RO → Nat → Nat} : kV z (5, 0, 0) := ⟨by decide, rfl⟩
theorem kV_6 {z : RO → Nat → Nat} : kV z (6, 0, 0) := ⟨by decide, rfl⟩
theorem kV_7 {z : RO → Nat → Nat} : kV z (7, 0, 0) := ⟨by decide, rfl⟩
theorem kV_8 {z : RO → Nat → Nat} : kV z (8, 0, 0) := ⟨by decide, rfl⟩
theorem kV_9 {z : RO → Nat → Nat} : kV z (9, 0, 0) := ⟨by decide, rfl⟩
theorem kV_10 {z : RO → Nat → Nat} : kV z (10, 0, 0) := ⟨by decide, rfl⟩
theorem kV_11 {z : RO → Nat → Nat} : kV z (11, 0, 0) := ⟨by decide, rfl⟩
theorem kV_12 {z : RO → Nat → Nat} : kV z (12, 0, 0) := ⟨by decide, rfl⟩
theorem kV_13 {z : RO → Nat → Nat} : kV z (13, 0, 0) := ⟨by decide, rfl⟩
theorem kV_14 {z : RO → Nat → Nat} : kV z (14, 0, 0) := ⟨by decide, rfl⟩
theorem kV_15 {z : RO → Nat → Nat} : kV z (15, 0, 0) := ⟨by decide, rfl⟩
theorem kV_16 {z : RO → Nat → Nat} : kV z (16, 0, 0) := ⟨by decide, rfl⟩
theorem kV_17 {z : RO → Nat → Nat} : kV z (17, 0, 0) := ⟨by decide, rfl⟩
theorem kV_18 {z : RO → Nat → Nat} : kV z (18, 0, 0) := ⟨by decide, rfl⟩
theorem Rep.net (R : Rep E dc S K h) : xget h (E (0, 0, 0)) = some (.inr (0, neF (E (1, 0, 0)) (E (2, 0, 0)) (E (3, 0, 0)) (E (4, 0, 0)) (E (5, 0, 0)) (E (6, 0, 0)) (E (9, 0, 0)) (E (10, 0, 0)) (E (11, 0, 0)) (E (15, 0, 0)) (S.1 (0, 0, 0) 0))) := R.1 _ kV_0
theorem Rep.coins (R : Rep E dc S K h) : xget h (E (1, 0, 0)) = some (.inl (false, .int, 6, .inl (S.1 (1, 0, 0)))) := R.1 _ kV_1
theorem Rep.base (R : Rep E dc S K h) : xget h (E (2, 0, 0)) = some (.inl (false, .int, 6, .inl (S.1 (2, 0, 0)))) := R.1 _ kV_2
theorem Rep.parts (R : Rep E dc S K h) : xget h (E (3, 0, 0)) = some (.inl (false, .int, 6, .inl (S.1 (3, 0, 0)))) := R.1 _ kV_3
theorem Rep.delta (R : Rep E dc S K h) : xget h (E (4, 0, 0)) = some (.inl (false, .int, 6, .inl (S.1 (4, 0, 0)))) := R.1 _ kV_4
theorem Rep.watch (R : Rep E dc S K h) : xget h (E (5, 0, 0)) = some (.inl (false, .boolean, 6, .inl (S.1 (5, 0, 0)))) := R.1 _ kV_5
theorem Rep.secr (R : Rep E dc S K h) : xget h (E (6, 0, 0)) = some (.inr (1, [.ref (E (7, 0, 0)), .ref (E (8, 0, 0)), .int (nI (S.2.2.1 (6, 0, 0) 0))])) := R.1 _ kV_6
theorem Rep.locks (R : Rep E dc S K h) : xget h (E (7, 0, 0)) = some (.inl (false, .long, 24, .inr (.inl (S.2.1 (7, 0, 0))))) := R.1 _ kV_7
theorem Rep.knowers (R : Rep E dc S K h) : xget h (E (8, 0, 0)) = some (.inl (false, .int, 24, .inl (S.1 (8, 0, 0)))) := R.1 _ kV_8
theorem Rep.best (R : Rep E dc S K h) : xget h (E (11, 0, 0)) = some (.inr (3, roF (E (12, 0, 0)) (E (13, 0, 0)) (E (14, 0, 0)) (nI (S.2.2.1 (11, 0, 0) 0)))) := R.1 _ kV_11
theorem Rep.best1 (R : Rep E dc S K h) : xget h (E (12, 0, 0)) = some (.inl (false, .int, 5, .inl (S.1 (12, 0, 0)))) := R.1 _ kV_12
theorem Rep.best2 (R : Rep E dc S K h) : xget h (E (13, 0, 0)) = some (.inl (false, .int, 5, .inl (S.1 (13, 0, 0)))) := R.1 _ kV_13
theorem Rep.best3 (R : Rep E dc S K h) : xget h (E (14, 0, 0)) = some (.inl (false, .int, 5, .inl (S.1 (14, 0, 0)))) := R.1 _ kV_14
theorem Rep.trail (R : Rep E dc S K h) : xget h (E (15, 0, 0)) = some (.inr (3, roF (E (16, 0, 0)) (E (17, 0, 0)) (E (18, 0, 0)) (nI (S.2.2.1 (15, 0, 0) 0)))) := R.1 _ kV_15
theorem Rep.trail1 (R : Rep E dc S K h) : xget h (E (16, 0, 0)) = some (.inl (false, .int, 5, .inl (S.1 (16, 0, 0)))) := R.1 _ kV_16
theorem Rep.trail2 (R : Rep E dc S K h) : xget h (E (17, 0, 0)) = some (.inl (false, .int, 5, .inl (S.1 (17, 0, 0)))) := R.1 _ kV_17
theorem Rep.trail3 (R : Rep E dc S K h) : xget h (E (18, 0, 0)) = some (.inl (false, .int, 5, .inl (S.1 (18, 0, 0)))) := R.1 _ kV_18
theorem Rep.chan (R : Rep E dc S K h) {j : Nat} (hj : j < S.2.2.2 (9, 0, 0) 0) : xget h (E (21, j, 0)) = some (.inr (4, chF (nI (S.2.2.1 (21, j, 0) 0)) (nI (S.2.2.1 (21, j, 0) 1)) (E (22, j, 0)) (E (23, j, 0)) (E (24, j, 0)) (nI (S.2.2.1 (21, j, 0) 5)) (S.1 (21, j, 0) 6) (S.1 (21, j, 0) 7) (S.1 (21, j, 0) 8) (S.1 (21, j, 0) 9) (S.1 (21, j, 0) 10) (bZ (S.1 (21, j, 0) 11)))) := R.1 (21, j, 0) ⟨hj, rfl⟩
theorem Rep.chan1 (R : Rep E dc S K h) {j : Nat} (hj : j < S.2.2.2 (9, 0, 0) 0) : xget h (E (22, j, 0)) = some (.inl (false, .int, 64, .inl (S.1 (22, j, 0)))) := R.1 (22, j, 0) ⟨hj, rfl⟩
theorem Rep.chan2 (R : Rep E dc S K h) {j : Nat} (hj : j < S.2.2.2 (9, 0, 0) 0) : xget h (E (23, j, 0)) = some (.inl (false, .int, 64, .inl (S.1 (23, j, 0)))) := R.1 (23, j, 0) ⟨hj, rfl⟩
theorem Rep.prom (R : Rep E dc S K h) {j k : Nat} (hj : j < S.2.2.2 (9, 0, 0) 0) (hk : k < S.2.2.2 (24, j, 0) 0) : xget h (E (26, j, k)) = some (.inr (5, prF (nI (S.2.2.1 (26, j, k) 0)) (nI (S.2.2.1 (26, j, k) 1)) (S.1 (26, j, k) 2) (S.2.1 (26, j, k) 0) (S.1 (26, j, k) 4) (S.1 (26, j, k) 5) (S.1 (26, j, k) 6) (bZ (S.1 (26, j, k) 7)))) := R.1 (26, j, k) ⟨hj, hk⟩
theorem Rep.paym (R : Rep E dc S K h) {p : Nat} (hp : p < S.2.2.2 (10, 0, 0) 0) : xget h (E (27, p, 0)) = some (.inr (6, pyF (nI (S.2.2.1 (27, p, 0) 0)) (S.2.1 (27, p, 0) 0) (nI (S.2.2.2 (27, p, 0) 0)) (E (28, p, 0)) (E (29, p, 0)) (E (30, p, 0)) (E (31, p, 0)) (E (32, p, 0)) (S.1 (27, p, 0) 8) (S.1 (27, p, 0) 9) (nI (S.2.2.1 (27, p, 0) 10)) (nI (S.2.2.1 (27, p, 0) 11)) (S.1 (27, p, 0) 12))) := R.1 (27, p, 0) ⟨hp, rfl⟩
theorem Rep.paym1 (R : Rep E dc S K h) {p : Nat} (hp : p < S.2.2.2 (10, 0, 0) 0) : xget h (E (28, p, 0)) = some (.inl (false, .int, S.2.2.2 (27, p, 0) 0, .inl (S.1 (28, p, 0)))) := R.1 (28, p, 0) ⟨hp, rfl⟩
theorem Rep.paym2 (R : Rep E dc S K h) {p : Nat} (hp : p < S.2.2.2 (10, 0, 0) 0) : xget h (E (29, p, 0)) = some (.inl (false, .int, S.2.2.2 (27, p, 0) 0, .inl (S.1 (29, p, 0)))) := R.1 (29, p, 0) ⟨hp, rfl⟩
theorem Rep.paym3 (R : Rep E dc S K h) {p : Nat} (hp : p < S.2.2.2 (10, 0, 0) 0) : xget h (E (30, p, 0)) = some (.inl (false, .int, S.2.2.2 (27, p, 0) 0, .inl (S.1 (30, p, 0)))) := R.1 (30, p, 0) ⟨hp, rfl⟩
theorem Rep.paym4 (R : Rep E dc S K h) {p : Nat} (hp : p < S.2.2.2 (10, 0, 0) 0) : xget h (E (31, p, 0)) = some (.inl (false, .int, S.2.2.2 (27, p, 0) 0, .inl (S.1 (31, p, 0)))) := R.1 (31, p, 0) ⟨hp, rfl⟩
theorem Rep.paym5 (R : Rep E dc S K h) {p : Nat} (hp : p < S.2.2.2 (10, 0, 0) 0) : xget h (E (32, p, 0)) = some (.inl (false, .int, S.2.2.2 (27, p, 0) 0, .inl (S.1 (32, p, 0)))) := R.1 (32, p, 0) ⟨hp, rfl⟩
theorem aL_of {a e n0 : Nat} {z q : Nat → Nat} {mo : Int32} {g0 : Nat → Option Nat} (h1 : xget h a = some (kLst z dc e mo)) (h2 : 0 < z 1 → xget h e = some (kArr z q)) (hd : xget h dc = some (.inl (true, .object "java/lang/Object", 0, .inr (.inr (.inr (.inr g0)))))) (hw : z 0 ≤ z 1 ∧ z 1 ≤ 1024) (hn : z 0 = n0) : aL h a q n0 := by
  subst hn
  by_cases h0 : z 1 = 0
  · refine ⟨dc, mo, 0, true, g0, ?_, by omega, by omega, hd, fun j hj => by omega⟩
    rw [h1]
    unfold kLst
    rw [if_pos h0]
  · refine ⟨e, mo, z 1, false, _, ?_, hw.1, hw.2, h2 (by omega), fun j hj => by rw [if_pos hj]⟩
    rw [h1]
    unfold kLst
    rw [if_neg h0]
theorem Rep.dcs (R : Rep E dc S K h) : ∃ g0 : Nat → Option Nat, xget h dc = some (.inl (true, .object "java/lang/Object", 0, .inr (.inr (.inr (.inr g0))))) := by
  obtain ⟨g0, hg⟩ := R.2.2.2.1
  exact ⟨g0, (R.2.2.1 dc _ hg).1⟩
theorem Rep.lC (R : Rep E dc S K h) : aL h (E (9, 0, 0)) (fun i => E (21, i, 0)) (S.2.2.2 (9, 0, 0) 0) := by
  obtain ⟨g0, hg⟩ := R.dcs
  exact aL_of (R.1 _ kV_9) (fun z => R.1 (19, 0, 0) ⟨rfl, z⟩) hg ⟨R.2.2.2.2.1.1, R.2.2.2.2.1.2.le⟩ rfl
theorem Rep.lP (R : Rep E dc S K h) : aL h (E (10, 0, 0)) (fun i => E (27, i, 0)) (S.2.2.2 (10, 0, 0) 0) := by
  obtain ⟨g0, hg⟩ := R.dcs
  exact aL_of (R.1 _ kV_10) (fun z => R.1 (20, 0, 0) ⟨rfl, z⟩) hg ⟨R.2.2.2.2.2.1.1, R.2.2.2.2.2.1.2.le⟩ rfl
theorem Rep.lK (R : Rep E dc S K h) {j : Nat} (hj : j < S.2.2.2 (9, 0, 0) 0) : aL h (E (24, j, 0)) (fun i => E (26, j, i)) (S.2.2.2 (24, j, 0) 0) := by
  obtain ⟨g0, hg⟩ := R.dcs
  exact aL_of (R.1 (24, j, 0) ⟨hj, rfl⟩) (fun z => R.1 (25, j, 0) ⟨hj, rfl, z⟩) hg ⟨(R.2.2.2.2.2.2 j hj).1, (R.2.2.2.2.2.2 j hj).2.le⟩ rfl
theorem Rep.aP (R : Rep E dc S K h) {j : Nat} (hj : j < S.2.2.2 (9, 0, 0) 0) : aP h (fun i => E (26, j, i)) (S.2.2.2 (24, j, 0) 0) (fun k => S.1 (26, j, k) 2) (fun k => S.1 (26, j, k) 5) (fun k => S.1 (26, j, k) 6) :=
  fun k hk => ⟨_, _, _, _, _, R.prom hj hk⟩
theorem Rep.ne (R : Rep E dc S K h) {a b : RO} (ha : kV S.2.2.2 a) (hb : kV S.2.2.2 b) (n : a ≠ b) : E a ≠ E b := fun z => n (R.2.1 a b ha hb z)
theorem xEd_some {c : Option Nat} {ci : Nat} {Q0 : Outcome → XH → Prop} (hz : c = some ci) : xEd c h Q0 (.threw h.1) (xnew h (.inr (ci, [])) 6) := by
  rw [hz]; exact ⟨rfl, rfl⟩
theorem xEd_none {c : Option Nat} {Q0 : Outcome → XH → Prop} {o : Outcome} {u : XH} (hz : c = none) (q : Q0 o u) : xEd c h Q0 o u := by
  rw [hz]; exact q
/-- the same heap but for the cells -/
def xSz (h u : XH) : Prop := u.1 = h.1 ∧ u.2.1 = h.2.1 ∧ u.2.2.1 = h.2.2.1
end X55
