/- Part 77: a payment's deadlines; a payment in the list. -/
def fdu (de pf : Nat → Int32) (dl : Int32) (L : Nat) : Nat → Int32
  | 0 => dl
  | m + 1 => fdu de pf dl L m + de (pf (L - 1 - m)).toNatClampNeg
def fdc (de pf : Nat → Int32) (dl : Int32) (L : Nat) : Nat → Nat → Int32
  | 0 => fun _ => 0
  | m + 1 => upd (fdc de pf dl L m) (L - 1 - m) (fdu de pf dl L m)
section X77
variable {D : va_G} {N0 : Nat} {d a L : Nat} {h : XH}
theorem c_N_fixDeadlines {nt co ba pa de0 wa se ch0 py0 la tr ch py am dd pr : Nat} {hg re dl st ou ma le en : Int32} {lo : Int64} {de pf : Nat → Int32} (hn : xget h nt = some (.inr (0, neF co ba pa de0 wa se ch0 py0 la tr hg))) (hde : xget h de0 = some (.inl (false, .int, 6, .inl de))) (ha : xget h a = some (.inr (6, pyF re lo (nI L) ch py am dd pr st ou ma le en))) (hp : xget h py = some (.inl (false, .int, L, .inl pf))) (hd : xget h dd = some (iA L fun _ => 0)) (hv : ∀ i, i < L → ∃ w, w < 6 ∧ pf i = nI w) (n1 : nt ≠ dd) (n2 : de0 ≠ dd) (n3 : a ≠ dd) (n4 : py ≠ dd) (hL : L ≤ 5) :
    xV D N0 mN_fixDeadlines d 0 (xargs 5 [.ref nt, .ref a, .int dl]) [] h (xEq (.returned none) (xput h dd (iA L (fdc de pf dl L L)))) := by
  have loop : ∀ n m, m + n = L → ∀ x : Int32, x + 1 = nI n → xV D N0 mN_fixDeadlines d 10 [some (.ref nt), some (.ref a), some (.int dl), some (.int (fdu de pf dl L m)), some (.int x)] [] (xput h dd (iA L (fdc de pf dl L m))) (xEq (.returned none) (xput h dd (iA L (fdc de pf dl L L)))) := by
    intro n
    induction n with
    | zero =>
      intro m hm x hx
      obtain rfl : m = L := by omega
      have e : x = -1 := by
        have q := xi_sub x
        rw [hx] at q
        exact q.symm
      subst e
      refine xV.step rfl ?_
      refine xV.br rfl (fun h1 => ?_) (fun h1 => absurd (by decide) h1)
      exact xV.vret rfl rfl ⟨rfl, rfl⟩
    | succ n ih =>
      intro m hm x hx
      have e : x = nI n := by
        have q := xi_sub x
        rw [hx, ← xn_succ, xi_sub] at q
        exact q.symm
      subst e
      obtain ⟨w, hw, hpw⟩ := hv n (by omega)
      have en : L - 1 - m = n := by omega
      refine xV.step rfl ?_
      refine xV.br rfl (fun h1 => absurd h1 (xn_nonneg (by omega))) (fun h1 => ?_)
      refine xV.step rfl ?_
      refine xV.get xcl_ok rfl (show xget (xput h dd _) a = _ from (xput_ne n3).trans ha) rfl ?_
      refine xV.step rfl ?_
      refine xV.step rfl ?_
      refine xV.is (f := fdc de pf dl L m) (n := L) (j := n) rfl xput_get rfl (by omega) (by omega) ?_
      rw [xput_put]
      have ec : (.inl (false, .int, L, .inl (upd (fdc de pf dl L m) n (fdu de pf dl L m))) : XC) = iA L (fdc de pf dl L (m + 1)) := by
        show iA L (upd (fdc de pf dl L m) n (fdu de pf dl L m)) = iA L (upd (fdc de pf dl L m) (L - 1 - m) (fdu de pf dl L m))
        rw [en]
      rw [ec]
      refine xV.step rfl ?_
      refine xV.step rfl ?_
      refine xV.get xcl_ok rfl (show xget (xput h dd _) nt = _ from (xput_ne n1).trans hn) rfl ?_
      refine xV.step rfl ?_
      refine xV.get xcl_ok rfl (show xget (xput h dd _) a = _ from (xput_ne n3).trans ha) rfl ?_
      refine xV.step rfl ?_
      refine xV.ii (f := pf) (n := L) (j := n) rfl ((xput_ne n4).trans hp) rfl (by omega) (by omega) ?_
      refine xV.ii (f := de) (n := 6) (j := w) rfl ((xput_ne n2).trans hde) hpw hw (by omega) ?_
      refine xV.step rfl ?_
      refine xV.step rfl ?_
      have eu : fdu de pf dl L m + de w = fdu de pf dl L (m + 1) := by
        show _ = fdu de pf dl L m + de (pf (L - 1 - m)).toNatClampNeg
        rw [en, hpw, xn_clamp (by omega)]
      rw [eu]
      show xV D N0 mN_fixDeadlines d 38 [some (.ref nt), some (.ref a), some (.int dl), some (.int (fdu de pf dl L (m + 1))), some (.int (nI n))] [] _ _
      refine xV.step rfl ?_
      refine xV.step rfl ?_
      refine ih (m + 1) (by omega) _ ?_
      rw [Int32.add_assoc]
      exact Int32.add_zero _
  refine xV.step rfl ?_
  refine xV.step rfl ?_
  refine xV.step rfl ?_
  refine xV.get xcl_ok rfl ha rfl ?_
  refine xV.step rfl ?_
  refine xV.step rfl ?_
  refine xV.step rfl ?_
  have l0 := loop L 0 (by omega) (nI L - 1) (by
    rw [Int32.sub_add_cancel])
  rw [show xput h dd (iA L (fdc de pf dl L 0)) = h from xput_same hd] at l0
  exact l0
end X77
theorem rv_lt {c : Nat → Int32} {L i : Nat} : ∀ {k : Nat}, i < k → rv c L k i = c (L - 1 - i)
  | 0, h => by omega
  | k + 1, h => by
    show upd (rv c L k) k (c (L - 1 - k)) i = _
    by_cases e : i = k
    · rw [e, xupd_self]
    · rw [xupd_ne e]
      exact rv_lt (by omega)
theorem RepY.at {c p m : Nat → Int32} : ∀ {T : SP} {t : Nat}, RepY c p m T → t < T.length → ∃ e, e ∈ T ∧ c t = nI e.1 ∧ p t = e.2.1 ∧ (m t).toInt64 = e.2.2
  | [], t, _, ht => by simp at ht
  | e :: T, t, h, ht => by
    by_cases z : t = T.length
    · subst z
      exact ⟨e, List.mem_cons_self, h.1, h.2.2.1, h.2.2.2.1⟩
    · obtain ⟨f, f1, f2⟩ := RepY.at (t := t) h.2.2.2.2 (by simp at ht; omega)
      exact ⟨f, List.mem_cons_of_mem _ f1, f2⟩
/-- the search meets channels and nodes that there are -/
def cgood (S : CS) (B : SP) : Prop := ∀ e, e ∈ B → e.1 < S.2.2.2 (9, 0, 0) 0 ∧ ∃ w, w < 6 ∧ e.2.1 = nI w
theorem cgood_go {S : CS} (hO : srOK S) {fr : Int32} : ∀ k x a ps T B, cgood S T → cgood S B → cgood S (cgo S fr k x a ps T B)
  | 0, _, _, _, _, _, _, hB => hB
  | k + 1, x, a, ps, T, B, hT, hB => by
    rw [cgo]
    refine sloop_ind (C := S.2.2.2 (9, 0, 0) 0) (cgood S) (fun i B hi hB => ?_) _ 0 B (by omega) hB
    have hE : cgood S ((i, cpay S i x, a.toInt64) :: T) := fun e he => by
      rcases List.mem_cons.mp he with rfl | he
      · exact ⟨hi, cpay_nat hO hi x⟩
      · exact hT e he
    unfold cone
    split
    · split
      · split
        · exact hE
        · exact hB
      · exact cgood_go hO k _ _ _ _ _ hE hB
    · exact hB
theorem cgood_res {S : CS} (hO : srOK S) {fr to am : Int32} : cgood S (cres S fr to am) := cgood_go hO 5 _ _ _ _ _ (fun e he => by cases he) (fun e he => by cases he)
/-- the net with a payment that is not yet in the list -/
def cpy0 (S : CS) (n L tn : Nat) (lo : Int64) (dl : Int32) : CS := (fun q => if q = (27, n, 0) then (fun _ => 0) else if q = (28, n, 0) then rv (S.1 (12, 0, 0)) L L else if q = (29, n, 0) then rv (S.1 (13, 0, 0)) L L else if q = (30, n, 0) then rv (S.1 (14, 0, 0)) L L else if q = (31, n, 0) then fdc (S.1 (4, 0, 0)) (rv (S.1 (13, 0, 0)) L L) dl L L else if q = (32, n, 0) then (fun _ => 0) else S.1 q, fun q => if q = (27, n, 0) then (fun _ => lo) else S.2.1 q, fun q => if q = (27, n, 0) then (fun i => if i = 0 then tn else 0) else S.2.2.1 q, fun q => if q = (27, n, 0) then (fun i => if i = 0 then L else 0) else S.2.2.2 q)
section Y77
variable {D : va_G} {N0 : Nat} {d : Nat} {E : RO → Nat} {S : CS} {K : Nat → Option XC} {h : XH}
/-- a payment's objects, from h.1 on, come into the list -/
theorem Rep.newP {L tn : Nat} {lo : Int64} {dl : Int32} {u1 : XH} (R : Rep E (D.1 1000) S K h) (wf : ∀ (a : Nat) (c : XC), xget h a = some c → a < h.1) (wf2 : ∀ (q : Nat) (c : XC), xget u1 q = some c → q < u1.1) (hn : S.2.2.2 (10, 0, 0) 0 ≤ 15)
    (u1d : ∀ q, q < h.1 → xget u1 q = xget h q) (c0 : xget u1 h.1 = some (.inr (6, pyF (nI tn) lo (nI L) (h.1 + 1) (h.1 + 2) (h.1 + 3) (h.1 + 4) (h.1 + 5) 0 0 (nI 0) (nI 0) 0))) (c1 : xget u1 (h.1 + 1) = some (iA L (rv (S.1 (12, 0, 0)) L L))) (c2 : xget u1 (h.1 + 2) = some (iA L (rv (S.1 (13, 0, 0)) L L))) (c3 : xget u1 (h.1 + 3) = some (iA L (rv (S.1 (14, 0, 0)) L L))) (c4 : xget u1 (h.1 + 4) = some (iA L (fdc (S.1 (4, 0, 0)) (rv (S.1 (13, 0, 0)) L L) dl L L))) (c5 : xget u1 (h.1 + 5) = some (iA L fun _ => 0)) (hc1 : u1.2.1 + 1 ≤ xCmax) (hc2 : u1.2.2.1 + 73 ≤ xSmax) :
    ∃ (E' : RO → Nat) (c : Nat) (mo : Int32) (u : XH), xV D N0 mA_add (d + 6) 0 (xargs 2 [.ref (E (10, 0, 0)), .ref h.1]) [] u1 (xEq (.returned (some (.int 1))) u) ∧ E' (0, 0, 0) = E (0, 0, 0) ∧ E' (10, 0, 0) = E (10, 0, 0) ∧ xget u1 (E (10, 0, 0)) = xget h (E (10, 0, 0)) ∧ Rep E' (D.1 1000) (czl (cpy0 S (S.2.2.2 (10, 0, 0) 0) L tn lo dl) (10, 0, 0) (S.2.2.2 (10, 0, 0) 0 + 1) c mo) K u ∧ u.2.1 ≤ u1.2.1 + 1 ∧ u.2.2.1 ≤ u1.2.2.1 + 73 := by
  have no : ∀ q k, kV S.2.2.2 q → 27 ≤ k → k ≤ 32 → q ≠ (k, S.2.2.2 (10, 0, 0) 0, 0) := fun q k hq h1 h2 e => by
    rw [e] at hq
    have := (kV_iff _ _ _ _).mp hq
    omega
  obtain ⟨E1, hE1, hold⟩ : ∃ E1 : RO → Nat, (∀ k, 27 ≤ k → k ≤ 32 → E1 (k, S.2.2.2 (10, 0, 0) 0, 0) = h.1 + (k - 27)) ∧ ∀ q, kV S.2.2.2 q → E1 q = E q := by
    refine ⟨fun q => if 27 ≤ q.1 ∧ q.1 ≤ 32 ∧ q.2 = (S.2.2.2 (10, 0, 0) 0, 0) then h.1 + (q.1 - 27) else E q, fun k k1 k2 => if_pos ⟨k1, k2, rfl⟩, fun q hq => if_neg (fun z => no q q.1 hq z.1 z.2.1 ?_)⟩
    obtain ⟨k, q2⟩ := q
    rw [show q2 = (S.2.2.2 (10, 0, 0) 0, 0) from z.2.2]
  have lt : ∀ q, kV S.2.2.2 q → E q < h.1 := fun q hq => wf _ _ (R.1 q hq)
  have zz : zSame S.2.2.2 (cpy0 S (S.2.2.2 (10, 0, 0) 0) L tn lo dl).2.2.2 := by
    refine ⟨rfl, rfl, fun j hj => rfl, fun p hp => ?_⟩
    show (if ((27, p, 0) : RO) = (27, S.2.2.2 (10, 0, 0) 0, 0) then (fun i => if i = 0 then L else 0) else S.2.2.2 (27, p, 0)) = _
    exact if_neg (fun e => Nat.lt_irrefl p (by
      have e2 : p = S.2.2.2 (10, 0, 0) 0 := congrArg (fun q : RO => q.2.1) e
      omega))
  have R2 : Rep E1 (D.1 1000) (cpy0 S (S.2.2.2 (10, 0, 0) 0) L tn lo dl) K u1 := by
    refine R.same hold zz (fun q hq => ⟨?_, ?_, ?_⟩) wf u1d
    · unfold cpy0
      simp only
      rw [if_neg (no q 27 hq (by omega) (by omega)), if_neg (no q 28 hq (by omega) (by omega)), if_neg (no q 29 hq (by omega) (by omega)), if_neg (no q 30 hq (by omega) (by omega)), if_neg (no q 31 hq (by omega) (by omega)), if_neg (no q 32 hq (by omega) (by omega))]
    · exact if_neg (no q 27 hq (by omega) (by omega))
    · exact if_neg (no q 27 hq (by omega) (by omega))
  have z27 : (cpy0 S (S.2.2.2 (10, 0, 0) 0) L tn lo dl).2.2.2 (27, S.2.2.2 (10, 0, 0) 0, 0) = fun i => if i = 0 then L else 0 := if_pos rfl
  have e10 : E1 (10, 0, 0) = E (10, 0, 0) := hold _ kV_10
  have d27 : (cpy0 S (S.2.2.2 (10, 0, 0) 0) L tn lo dl).1 (27, S.2.2.2 (10, 0, 0) 0, 0) = fun _ => 0 := if_pos rfl
  have g27 : (cpy0 S (S.2.2.2 (10, 0, 0) 0) L tn lo dl).2.1 (27, S.2.2.2 (10, 0, 0) 0, 0) = fun _ => lo := if_pos rfl
  have w27 : (cpy0 S (S.2.2.2 (10, 0, 0) 0) L tn lo dl).2.2.1 (27, S.2.2.2 (10, 0, 0) 0, 0) = fun i => if i = 0 then tn else 0 := if_pos rfl
  have d28 : (cpy0 S (S.2.2.2 (10, 0, 0) 0) L tn lo dl).1 (28, S.2.2.2 (10, 0, 0) 0, 0) = rv (S.1 (12, 0, 0)) L L := by
    show (if ((28, S.2.2.2 (10, 0, 0) 0, 0) : RO) = (28, S.2.2.2 (10, 0, 0) 0, 0) then rv (S.1 (12, 0, 0)) L L else _) = _
    exact if_pos rfl
  have d29 : (cpy0 S (S.2.2.2 (10, 0, 0) 0) L tn lo dl).1 (29, S.2.2.2 (10, 0, 0) 0, 0) = rv (S.1 (13, 0, 0)) L L := by
    show (if ((29, S.2.2.2 (10, 0, 0) 0, 0) : RO) = (29, S.2.2.2 (10, 0, 0) 0, 0) then rv (S.1 (13, 0, 0)) L L else _) = _
    exact if_pos rfl
  have d30 : (cpy0 S (S.2.2.2 (10, 0, 0) 0) L tn lo dl).1 (30, S.2.2.2 (10, 0, 0) 0, 0) = rv (S.1 (14, 0, 0)) L L := by
    show (if ((30, S.2.2.2 (10, 0, 0) 0, 0) : RO) = (30, S.2.2.2 (10, 0, 0) 0, 0) then rv (S.1 (14, 0, 0)) L L else _) = _
    exact if_pos rfl
  have d31 : (cpy0 S (S.2.2.2 (10, 0, 0) 0) L tn lo dl).1 (31, S.2.2.2 (10, 0, 0) 0, 0) = fdc (S.1 (4, 0, 0)) (rv (S.1 (13, 0, 0)) L L) dl L L := by
    show (if ((31, S.2.2.2 (10, 0, 0) 0, 0) : RO) = (31, S.2.2.2 (10, 0, 0) 0, 0) then fdc (S.1 (4, 0, 0)) (rv (S.1 (13, 0, 0)) L L) dl L L else _) = _
    exact if_pos rfl
  have d32 : (cpy0 S (S.2.2.2 (10, 0, 0) 0) L tn lo dl).1 (32, S.2.2.2 (10, 0, 0) 0, 0) = fun _ => 0 := by
    show (if ((32, S.2.2.2 (10, 0, 0) 0, 0) : RO) = (32, S.2.2.2 (10, 0, 0) 0, 0) then (fun _ => 0) else _) = _
    exact if_pos rfl
  have hnv : nvOK E1 (D.1 1000) (cpy0 S (S.2.2.2 (10, 0, 0) 0) L tn lo dl) K u1 (10, 0, 0) (20, 0, 0) := by
    intro c E' hc hE q hq1 hq2
    have key : ∀ q, kV (zset (cpy0 S (S.2.2.2 (10, 0, 0) 0) L tn lo dl).2.2.2 (10, 0, 0) ((cpy0 S (S.2.2.2 (10, 0, 0) 0) L tn lo dl).2.2.2 (10, 0, 0) 0 + 1) c) q → ¬ kV (zset (cpy0 S (S.2.2.2 (10, 0, 0) 0) L tn lo dl).2.2.2 (10, 0, 0) ((cpy0 S (S.2.2.2 (10, 0, 0) 0) L tn lo dl).2.2.2 (10, 0, 0) 0) c) q → ∃ k, 27 ≤ k ∧ k ≤ 32 ∧ q = (k, S.2.2.2 (10, 0, 0) 0, 0) := fun q y1 y2 => nv10 (z := (cpy0 S (S.2.2.2 (10, 0, 0) 0) L tn lo dl).2.2.2) y1 y2
    obtain ⟨k, k1, k2, rfl⟩ := key q hq1 hq2
    have z28 : zset (cpy0 S (S.2.2.2 (10, 0, 0) 0) L tn lo dl).2.2.2 (10, 0, 0) ((cpy0 S (S.2.2.2 (10, 0, 0) 0) L tn lo dl).2.2.2 (10, 0, 0) 0 + 1) c (27, S.2.2.2 (10, 0, 0) 0, 0) = fun i => if i = 0 then L else 0 := by rw [zset_ne (fun e => by cases e), z27]
    have hE2 : ∀ k, 27 ≤ k → k ≤ 32 → E' (k, S.2.2.2 (10, 0, 0) 0, 0) = h.1 + (k - 27) := fun k k1 k2 => (hE _ (fun e => by have e2 : k = 20 := congrArg (fun q : RO => q.1) e; omega)).trans (hE1 k k1 k2)
    refine ⟨?_, (fun e => by have e2 : k = 20 := congrArg (fun q : RO => q.1) e; omega), (fun e => by have e2 : k = 10 := congrArg (fun q : RO => q.1) e; omega), fun p hp => ?_, fun c' hK => ?_, fun p hp1 hp2 e => ?_⟩
    · rw [hE1 k k1 k2]
      obtain rfl | rfl | rfl | rfl | rfl | rfl : k = 27 ∨ k = 28 ∨ k = 29 ∨ k = 30 ∨ k = 31 ∨ k = 32 := by omega
      · rw [show h.1 + (27 - 27) = h.1 by omega, c0, d27, g27, w27]
        unfold kcell
        simp only
        rw [z28, hE2 28 (by omega) (by omega), hE2 29 (by omega) (by omega), hE2 30 (by omega) (by omega), hE2 31 (by omega) (by omega), hE2 32 (by omega) (by omega)]
        rfl
      · rw [show h.1 + (28 - 27) = h.1 + 1 by omega, c1, d28]
        unfold kcell
        simp only
        rw [z28]
        rfl
      · rw [show h.1 + (29 - 27) = h.1 + 2 by omega, c2, d29]
        unfold kcell
        simp only
        rw [z28]
        rfl
      · rw [show h.1 + (30 - 27) = h.1 + 3 by omega, c3, d30]
        unfold kcell
        simp only
        rw [z28]
        rfl
      · rw [show h.1 + (31 - 27) = h.1 + 4 by omega, c4, d31]
        unfold kcell
        simp only
        rw [z28]
        rfl
      · rw [show h.1 + (32 - 27) = h.1 + 5 by omega, c5, d32]
        unfold kcell
        simp only
        rw [z28]
        rfl
    · rw [zz.kV] at hp
      rw [hold p hp, hE1 k k1 k2]
      have := lt p hp
      omega
    · rw [hE1 k k1 k2] at hK
      have := wf _ _ (R.2.2.1 _ _ hK).1
      omega
    · obtain ⟨k', k1', k2', rfl⟩ := key p hp1 hp2
      rw [hE1 k k1 k2, hE1 k' k1' k2'] at e
      rw [show k' = k by omega]
  have hWz : ∀ c, S.2.2.2 (10, 0, 0) 0 + 1 ≤ c → capOK c → kW (zset (cpy0 S (S.2.2.2 (10, 0, 0) 0) L tn lo dl).2.2.2 (10, 0, 0) (S.2.2.2 (10, 0, 0) 0 + 1) c) := by
    intro c hnc hc
    obtain ⟨y1, y2, y3⟩ := R.2.2.2.2
    refine ⟨by rw [zset_ne (by decide), zz.1]; exact y1, by rw [zset_0, zset_1]; exact ⟨hnc, hc⟩, fun j hj => ?_⟩
    rw [zset_ne (by decide), zz.1] at hj
    rw [zset_ne (fun e => by cases e), zz.2.2.1 j hj]
    exact y3 j hj
  obtain ⟨E', c, mo, u, a1, a2, a3, a4, a5⟩ := R2.addL (D := D) (N0 := N0) (d := d) (lr := (10, 0, 0)) (br := (20, 0, 0)) (el := fun i => (27, i, 0)) (x := h.1) (ci := 6) (q := ("ChannelNet$Payment", xTY, 13)) (Or.inr (Or.inl ⟨rfl, rfl, rfl⟩)) wf2 (hE1 27 (by omega) (by omega)).symm c0 rfl cst_ch.2.2
    (fun i hi => ⟨_, by rw [hold (27, i, 0) ⟨hi, rfl⟩, u1d _ (lt (27, i, 0) ⟨hi, rfl⟩)]; exact R.paym hi⟩)
    (by rw [e10]; exact Ne.symm (Nat.ne_of_lt (lt _ kV_10))) (Nat.le_trans hn (by omega)) hnv hWz hc1 hc2
  rw [e10] at a1
  exact ⟨E', c, mo, u, a1, (a2 _ (by decide)).trans (hold _ kV_0), (a2 _ (by decide)).trans e10, u1d _ (lt _ kV_10), a3, a4, a5⟩
end Y77
