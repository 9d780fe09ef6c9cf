/- Part 71: a new channel; what is made of it. -/
def chf0 (a b : Int32) : Nat → Int32 := fun i => if i = 7 then a + b else if i = 8 then -1 else if i = 9 then -1 else if i = 10 then -1 else 0
def chw0 (f s : Nat) : Nat → Nat := fun i => if i = 0 then f else if i = 1 then s else 0
/-- the net with a channel that is not yet in the list -/
def cop0 (S : CS) (n f s : Nat) (a b : Int32) : CS := (fun q => if q = (21, n, 0) then chf0 a b else if q = (22, n, 0) then upd (fun _ => 0) 0 a else if q = (23, n, 0) then upd (fun _ => 0) 0 b else if q = (24, n, 0) then (fun _ => 0) else S.1 q, S.2.1, fun q => if q = (21, n, 0) then chw0 f s else S.2.2.1 q, fun q => if q = (24, n, 0) then (fun _ => 0) else S.2.2.2 q)
def chX (f s : Int32) (b1 b2 b3 : Nat) (he : Int32) : XC := .inr (4, chF f s b1 b2 b3 (nI 0) 0 he (-1) (-1) (-1) false)
section X71
variable {D : va_G} {N0 : Nat} {d : Nat} {E : RO → Nat} {S : CS} {K : Nat → Option XC} {h : XH}
/-- the places of a new channel's objects, from a on -/
theorem Rep.newC (R : Rep E (D.1 1000) S K h) {f s : Nat} {a b : Int32} (wf : ∀ (a : Nat) (c : XC), xget h a = some c → a < h.1) (wf2 : ∀ (q : Nat) (c : XC), xget (hC0 (xnew h (.inr (4, xdf 4)) 12) h.1 (D.1 1000) (nI f) (nI s) a b) q = some c → q < (hC0 (xnew h (.inr (4, xdf 4)) 12) h.1 (D.1 1000) (nI f) (nI s) a b).1) (hn : S.2.2.2 (9, 0, 0) 0 ≤ 7) (hc1 : h.2.1 + 5 ≤ xCmax) (hc2 : h.2.2.1 + 216 ≤ xSmax) :
    ∃ (E' : RO → Nat) (c : Nat) (mo : Int32) (u : XH), xV D N0 mA_add (d + 6) 0 (xargs 2 [.ref (E (9, 0, 0)), .ref h.1]) [] (hC0 (xnew h (.inr (4, xdf 4)) 12) h.1 (D.1 1000) (nI f) (nI s) a b) (xEq (.returned (some (.int 1))) u) ∧ E' (0, 0, 0) = E (0, 0, 0) ∧ E' (9, 0, 0) = E (9, 0, 0) ∧ xget (hC0 (xnew h (.inr (4, xdf 4)) 12) h.1 (D.1 1000) (nI f) (nI s) a b) (E (9, 0, 0)) = xget h (E (9, 0, 0)) ∧ Rep E' (D.1 1000) (czl (cop0 S (S.2.2.2 (9, 0, 0) 0) f s a b) (9, 0, 0) (S.2.2.2 (9, 0, 0) 0 + 1) c mo) K u ∧ xMk h u 5 216 := by
  obtain ⟨E1, e1, e2, e3, e4, hold⟩ : ∃ E1 : RO → Nat, E1 (21, S.2.2.2 (9, 0, 0) 0, 0) = h.1 ∧ E1 (22, S.2.2.2 (9, 0, 0) 0, 0) = h.1 + 1 ∧ E1 (23, S.2.2.2 (9, 0, 0) 0, 0) = h.1 + 2 ∧ E1 (24, S.2.2.2 (9, 0, 0) 0, 0) = h.1 + 3 ∧ ∀ q, kV S.2.2.2 q → E1 q = E q := by
    refine ⟨fun q => if q = (21, S.2.2.2 (9, 0, 0) 0, 0) then h.1 else if q = (22, S.2.2.2 (9, 0, 0) 0, 0) then h.1 + 1 else if q = (23, S.2.2.2 (9, 0, 0) 0, 0) then h.1 + 2 else if q = (24, S.2.2.2 (9, 0, 0) 0, 0) then h.1 + 3 else E q, if_pos rfl, ?_, ?_, ?_, fun q hq => ?_⟩
    · show (if _ then _ else _) = _
      rw [if_neg (fun e => by cases e), if_pos rfl]
    · show (if _ then _ else _) = _
      rw [if_neg (fun e => by cases e), if_neg (fun e => by cases e), if_pos rfl]
    · show (if _ then _ else _) = _
      rw [if_neg (fun e => by cases e), if_neg (fun e => by cases e), if_neg (fun e => by cases e), if_pos rfl]
    · have no : ∀ k, 21 ≤ k → k ≤ 24 → q ≠ (k, S.2.2.2 (9, 0, 0) 0, 0) := fun k h1 h2 e => by
        rw [e] at hq
        have := (kV_iff _ _ _ _).mp hq
        omega
      show (if _ then _ else _) = _
      rw [if_neg (no 21 (by omega) (by omega)), if_neg (no 22 (by omega) (by omega)), if_neg (no 23 (by omega) (by omega)), if_neg (no 24 (by omega) (by omega))]
  have lt : ∀ q, kV S.2.2.2 q → E q < h.1 := fun q hq => wf _ _ (R.1 q hq)
  have no : ∀ q k, kV S.2.2.2 q → 21 ≤ k → k ≤ 24 → q ≠ (k, S.2.2.2 (9, 0, 0) 0, 0) := fun q k hq h1 h2 e => by
    rw [e] at hq
    have := (kV_iff _ _ _ _).mp hq
    omega
  -- the cells of the new channel
  have hu : ∀ u, u = hC0 (xnew h (.inr (4, xdf 4)) 12) h.1 (D.1 1000) (nI f) (nI s) a b → u.1 = h.1 + 4 ∧ u.2.1 = h.2.1 + 4 ∧ u.2.2.1 = h.2.2.1 + 143 ∧ (∀ q, q < h.1 → xget u q = xget h q) ∧ xget u h.1 = some (.inr (4, chF (nI f) (nI s) (h.1 + 1) (h.1 + 2) (h.1 + 3) (nI 0) 0 (a + b) (-1) (-1) (-1) false)) ∧ xget u (h.1 + 1) = some (.inl (false, .int, 64, .inl (upd (fun _ => 0) 0 a))) ∧ xget u (h.1 + 2) = some (.inl (false, .int, 64, .inl (upd (fun _ => 0) 0 b))) ∧ xget u (h.1 + 3) = some (lF (D.1 1000) 0 0) := by
    intro u hu
    subst hu
    unfold hC0
    refine ⟨rfl, rfl, by show h.2.2.1 + 12 + 64 + 64 + 3 = _; omega, fun q hq => ?_, xput_get, ?_, ?_, ?_⟩
    · rw [xput_ne (by omega), xnew_ne (by show q ≠ h.1 + 1 + 1 + 1; omega), xnew_ne (by show q ≠ h.1 + 1 + 1; omega), xnew_ne (by show q ≠ h.1 + 1; omega), xnew_ne (by omega)]
    · rw [xput_ne (by omega), xnew_ne (by show h.1 + 1 ≠ h.1 + 1 + 1 + 1; omega), xnew_ne (by show h.1 + 1 ≠ h.1 + 1 + 1; omega)]
      exact new_get
    · rw [xput_ne (by omega), xnew_ne (by show h.1 + 2 ≠ h.1 + 1 + 1 + 1; omega)]
      exact new_get
    · rw [xput_ne (by omega)]
      exact new_get
  generalize hC0 (xnew h (.inr (4, xdf 4)) 12) h.1 (D.1 1000) (nI f) (nI s) a b = u1 at hu wf2 ⊢
  obtain ⟨u1a, u1b, u1c, u1d, c0, c1, c2, c3⟩ := hu u1 rfl
  have zz : zSame S.2.2.2 (cop0 S (S.2.2.2 (9, 0, 0) 0) f s a b).2.2.2 := by
    refine ⟨rfl, rfl, fun j hj => ?_, fun p hp => rfl⟩
    show (if ((24, j, 0) : RO) = (24, S.2.2.2 (9, 0, 0) 0, 0) then (fun _ => 0) else S.2.2.2 (24, j, 0)) = _
    exact if_neg (fun e => Nat.lt_irrefl j (by
      have e2 : j = S.2.2.2 (9, 0, 0) 0 := congrArg (fun q : RO => q.2.1) e
      omega))
  have R2 : Rep E1 (D.1 1000) (cop0 S (S.2.2.2 (9, 0, 0) 0) f s a b) K u1 := by
    refine R.same hold zz (fun q hq => ⟨?_, rfl, ?_⟩) wf u1d
    · show (if _ then _ else _) = _
      rw [if_neg (no q 21 hq (by omega) (by omega)), if_neg (no q 22 hq (by omega) (by omega)), if_neg (no q 23 hq (by omega) (by omega)), if_neg (no q 24 hq (by omega) (by omega))]
    · show (if _ then _ else _) = _
      rw [if_neg (no q 21 hq (by omega) (by omega))]
  have z9 : (cop0 S (S.2.2.2 (9, 0, 0) 0) f s a b).2.2.2 (9, 0, 0) = S.2.2.2 (9, 0, 0) := zz.1
  have z24 : (cop0 S (S.2.2.2 (9, 0, 0) 0) f s a b).2.2.2 (24, S.2.2.2 (9, 0, 0) 0, 0) = fun _ => 0 := if_pos rfl
  have e9 : E1 (9, 0, 0) = E (9, 0, 0) := hold _ kV_9
  have d21 : (cop0 S (S.2.2.2 (9, 0, 0) 0) f s a b).1 (21, S.2.2.2 (9, 0, 0) 0, 0) = chf0 a b := if_pos rfl
  have w21 : (cop0 S (S.2.2.2 (9, 0, 0) 0) f s a b).2.2.1 (21, S.2.2.2 (9, 0, 0) 0, 0) = chw0 f s := if_pos rfl
  have d22 : (cop0 S (S.2.2.2 (9, 0, 0) 0) f s a b).1 (22, S.2.2.2 (9, 0, 0) 0, 0) = upd (fun _ => 0) 0 a := by
    show (if ((22, S.2.2.2 (9, 0, 0) 0, 0) : RO) = (22, S.2.2.2 (9, 0, 0) 0, 0) then upd (fun _ => 0) 0 a else _) = _
    exact if_pos rfl
  have d23 : (cop0 S (S.2.2.2 (9, 0, 0) 0) f s a b).1 (23, S.2.2.2 (9, 0, 0) 0, 0) = upd (fun _ => 0) 0 b := by
    show (if ((23, S.2.2.2 (9, 0, 0) 0, 0) : RO) = (23, S.2.2.2 (9, 0, 0) 0, 0) then upd (fun _ => 0) 0 b else _) = _
    exact if_pos rfl
  have d24 : (cop0 S (S.2.2.2 (9, 0, 0) 0) f s a b).1 (24, S.2.2.2 (9, 0, 0) 0, 0) = fun _ => 0 := by
    show (if ((24, S.2.2.2 (9, 0, 0) 0, 0) : RO) = (24, S.2.2.2 (9, 0, 0) 0, 0) then (fun _ => 0) else _) = _
    exact if_pos rfl
  have hE1 : ∀ k, 21 ≤ k → k ≤ 24 → E1 (k, S.2.2.2 (9, 0, 0) 0, 0) = h.1 + (k - 21) := by
    intro k k1 k2
    obtain rfl | rfl | rfl | rfl : k = 21 ∨ k = 22 ∨ k = 23 ∨ k = 24 := by omega
    · exact e1
    · exact e2
    · exact e3
    · exact e4
  have hnv : nvOK E1 (D.1 1000) (cop0 S (S.2.2.2 (9, 0, 0) 0) f s a b) K u1 (9, 0, 0) (19, 0, 0) := by
    intro c E' hc hE q hq1 hq2
    have key : ∀ q, kV (zset (cop0 S (S.2.2.2 (9, 0, 0) 0) f s a b).2.2.2 (9, 0, 0) ((cop0 S (S.2.2.2 (9, 0, 0) 0) f s a b).2.2.2 (9, 0, 0) 0 + 1) c) q → ¬ kV (zset (cop0 S (S.2.2.2 (9, 0, 0) 0) f s a b).2.2.2 (9, 0, 0) ((cop0 S (S.2.2.2 (9, 0, 0) 0) f s a b).2.2.2 (9, 0, 0) 0) c) q → ∃ k, 21 ≤ k ∧ k ≤ 24 ∧ q = (k, S.2.2.2 (9, 0, 0) 0, 0) := fun q y1 y2 => nv9 (z := (cop0 S (S.2.2.2 (9, 0, 0) 0) f s a b).2.2.2) ⟨congrFun z24 0, congrFun z24 1⟩ y1 y2
    obtain ⟨k, k1, k2, rfl⟩ := key q hq1 hq2
    refine ⟨?_, (fun e => by have e2 : k = 19 := congrArg (fun q : RO => q.1) e; omega), (fun e => by have e2 : k = 9 := congrArg (fun q : RO => q.1) e; omega), fun p hp => ?_, fun c' hK => ?_, fun p hp1 hp2 e => ?_⟩
    · obtain rfl | rfl | rfl | rfl : k = 21 ∨ k = 22 ∨ k = 23 ∨ k = 24 := by omega
      · rw [e1, c0, d21, w21]
        show _ = some (chX (nI f) (nI s) (E' (22, S.2.2.2 (9, 0, 0) 0, 0)) (E' (23, S.2.2.2 (9, 0, 0) 0, 0)) (E' (24, S.2.2.2 (9, 0, 0) 0, 0)) (a + b))
        rw [hE _ (fun e => by cases e), hE _ (fun e => by cases e), hE _ (fun e => by cases e), e2, e3, e4]
        rfl
      · rw [e2, c1, d22]
        rfl
      · rw [e3, c2, d23]
        rfl
      · rw [e4, c3, d24]
        show _ = some (kLst (zset _ (9, 0, 0) _ c (24, S.2.2.2 (9, 0, 0) 0, 0)) (D.1 1000) _ 0)
        rw [zset_ne (fun e => by cases e), z24]
        rfl
    · rw [zz.kV] at hp
      rw [hold p hp, hE1 k k1 k2]
      have := lt p hp
      omega
    · rw [hE1 k k1 k2] at hK
      have := wf _ _ (R.2.2.1 _ _ hK).1
      omega
    · obtain ⟨k', k1', k2', rfl⟩ := key p hp1 hp2
      rw [hE1 k k1 k2, hE1 k' k1' k2'] at e
      rw [show k' = k by omega]
  have hWz : ∀ c, S.2.2.2 (9, 0, 0) 0 + 1 ≤ c → capOK c → kW (zset (cop0 S (S.2.2.2 (9, 0, 0) 0) f s a b).2.2.2 (9, 0, 0) (S.2.2.2 (9, 0, 0) 0 + 1) c) := by
    intro c hnc hc
    obtain ⟨y1, y2, y3⟩ := R.2.2.2.2
    refine ⟨by rw [zset_0, zset_1]; exact ⟨hnc, hc⟩, by rw [zset_ne (by decide), zz.2.1]; exact y2, fun j hj => ?_⟩
    rw [zset_0] at hj
    rw [zset_ne (fun e => by cases e)]
    by_cases hjn : j < S.2.2.2 (9, 0, 0) 0
    · rw [zz.2.2.1 j hjn]
      exact y3 j hjn
    · rw [show j = S.2.2.2 (9, 0, 0) 0 by omega, z24]
      exact ⟨Nat.le_refl _, Or.inl rfl⟩
  obtain ⟨E', c, mo, u, a1, a2, a3, a4, a5⟩ := R2.addL (D := D) (N0 := N0) (d := d) (lr := (9, 0, 0)) (br := (19, 0, 0)) (el := fun i => (21, i, 0)) (x := h.1) (ci := 4) (q := ("ChannelNet$Channel", xTC, 12)) (Or.inl ⟨rfl, rfl, rfl⟩) wf2 e1.symm c0 rfl cst_ch.1
    (fun i hi => ⟨_, by rw [hold (21, i, 0) ⟨hi, rfl⟩, u1d _ (lt (21, i, 0) ⟨hi, rfl⟩)]; exact R.chan hi⟩)
    (by rw [e9]; exact Ne.symm (Nat.ne_of_lt (lt _ kV_9))) (Nat.le_trans hn (by omega)) hnv hWz (by omega) (by omega)
  rw [e9] at a1
  exact ⟨E', c, mo, u, a1, (a2 _ (by decide)).trans (hold _ kV_0), (a2 _ (by decide)).trans e9, u1d _ (lt _ kV_9), a3, by omega, by omega⟩
end X71
