/- Part 69: addPromise; promise. -/
set_option maxRecDepth 100000 in
theorem cst_ch : xW (.castable "ChannelNet$Channel" "java/lang/Object") ∧ xW (.castable "ChannelNet$Promise" "java/lang/Object") ∧ xW (.castable "ChannelNet$Payment" "java/lang/Object") := ⟨xW_tab (i := 1262) rfl rfl, xW_tab (i := 1263) rfl rfl, xW_tab (i := 1264) rfl rfl⟩
/-- what is made by a call: few cells -/
def xMk (h u : XH) (k n : Nat) : Prop := u.2.1 ≤ h.2.1 + k ∧ u.2.2.1 ≤ h.2.2.1 + n
/-- the contents of a new promise -/
def pf0 (am dl mi : Int32) : Nat → Int32 := fun i => if i = 2 then am else if i = 4 then dl else if i = 5 then mi else if i = 6 then -1 else 0
def pw0 (p q : Nat) : Nat → Nat := fun i => if i = 0 then p else if i = 1 then q else 0
/-- a new promise of channel j, before it is in the list -/
def cprm (S : CS) (j n p q : Nat) (am : Int32) (lo : Int64) (dl : Int32) : CS := cset (cst S j (nI p) (-am)) (26, j, n) (pf0 am dl (nI (S.2.2.1 (21, j, 0) 5 + 1))) (fun _ => lo) (pw0 p q)
/-- the partner of node p in channel j -/
def cpart (S : CS) (j p : Nat) : Nat := if nI p = nI (S.2.2.1 (21, j, 0) 0) then S.2.2.1 (21, j, 0) 1 else S.2.2.1 (21, j, 0) 0
theorem zset_e1 (z : RO → Nat → Nat) (lr : RO) (n n' c : Nat) (q : RO) : zset z lr n c q 1 = zset z lr n' c q 1 := by
  by_cases e : q = lr
  · rw [e, zset_1, zset_1]
  · rw [zset_ne e, zset_ne e]
/-- what comes with a new promise -/
theorem nv24 {z : RO → Nat → Nat} {j c : Nat} {q : RO} (h1 : kV (zset z (24, j, 0) (z (24, j, 0) 0 + 1) c) q) (h2 : ¬ kV (zset z (24, j, 0) (z (24, j, 0) 0) c) q) : q = (26, j, z (24, j, 0) 0) := by
  obtain ⟨k, i, l⟩ := q
  rw [kV_iff] at h1 h2
  rw [zset_ne (q := (9, 0, 0)) (fun e => by cases e), zset_ne (q := (10, 0, 0)) (fun e => by cases e)] at h1 h2
  rcases h1 with q | q | q | q | ⟨q1, q2, q3, q4⟩ | ⟨q1, q2, q3⟩ | q
  · exact absurd (Or.inl q) h2
  · exact absurd (Or.inr (Or.inl q)) h2
  · exact absurd (Or.inr (Or.inr (Or.inl q))) h2
  · exact absurd (Or.inr (Or.inr (Or.inr (Or.inl q)))) h2
  · rw [zset_e1 z (24, j, 0) _ (z (24, j, 0) 0) c] at q4
    exact absurd (Or.inr (Or.inr (Or.inr (Or.inr (Or.inl ⟨q1, q2, q3, q4⟩))))) h2
  · by_cases e : i = j
    · subst e
      rw [zset_0] at q3
      by_cases hl : l < z (24, i, 0) 0
      · exact absurd (Or.inr (Or.inr (Or.inr (Or.inr (Or.inr (Or.inl ⟨q1, q2, by rw [zset_0]; exact hl⟩)))))) h2
      · rw [q1, show l = z (24, i, 0) 0 by omega]
    · rw [zset_ne (fun t => e (by cases t; rfl))] at q3
      exact absurd (Or.inr (Or.inr (Or.inr (Or.inr (Or.inr (Or.inl ⟨q1, q2, by rw [zset_ne (fun t => e (by cases t; rfl))]; exact q3⟩)))))) h2
  · exact absurd (Or.inr (Or.inr (Or.inr (Or.inr (Or.inr (Or.inr q)))))) h2
/-- what comes with a new channel -/
theorem nv9 {z : RO → Nat → Nat} {c : Nat} {q : RO} (hz : z (24, z (9, 0, 0) 0, 0) 0 = 0 ∧ z (24, z (9, 0, 0) 0, 0) 1 = 0) (h1 : kV (zset z (9, 0, 0) (z (9, 0, 0) 0 + 1) c) q) (h2 : ¬ kV (zset z (9, 0, 0) (z (9, 0, 0) 0) c) q) : ∃ k, 21 ≤ k ∧ k ≤ 24 ∧ q = (k, z (9, 0, 0) 0, 0) := by
  obtain ⟨k, i, l⟩ := q
  rw [kV_iff] at h1 h2
  rw [zset_0, zset_1, zset_ne (q := (10, 0, 0)) (by decide), zset_ne (q := (24, i, 0)) (fun e => by cases e)] at h1 h2
  rcases h1 with q | q | q | ⟨q1, q2, q3, q4⟩ | ⟨q1, q2, q3, q4⟩ | ⟨q1, q2, q3⟩ | q
  · exact absurd (Or.inl q) h2
  · exact absurd (Or.inr (Or.inl q)) h2
  · exact absurd (Or.inr (Or.inr (Or.inl q))) h2
  · by_cases hi : i < z (9, 0, 0) 0
    · exact absurd (Or.inr (Or.inr (Or.inr (Or.inl ⟨q1, q2, hi, q4⟩)))) h2
    · exact ⟨k, q1, q2, by rw [q4, show i = z (9, 0, 0) 0 by omega]⟩
  · by_cases hi : i < z (9, 0, 0) 0
    · exact absurd (Or.inr (Or.inr (Or.inr (Or.inr (Or.inl ⟨q1, hi, q3, q4⟩))))) h2
    · rw [show i = z (9, 0, 0) 0 by omega, hz.2] at q4
      exact absurd q4 (Nat.lt_irrefl _)
  · by_cases hi : i < z (9, 0, 0) 0
    · exact absurd (Or.inr (Or.inr (Or.inr (Or.inr (Or.inr (Or.inl ⟨q1, hi, q3⟩)))))) h2
    · rw [show i = z (9, 0, 0) 0 by omega, hz.1] at q3
      exact absurd q3 (Nat.not_lt_zero _)
  · exact absurd (Or.inr (Or.inr (Or.inr (Or.inr (Or.inr (Or.inr q)))))) h2
/-- what comes with a new payment -/
theorem nv10 {z : RO → Nat → Nat} {c : Nat} {q : RO} (h1 : kV (zset z (10, 0, 0) (z (10, 0, 0) 0 + 1) c) q) (h2 : ¬ kV (zset z (10, 0, 0) (z (10, 0, 0) 0) c) q) : ∃ k, 27 ≤ k ∧ k ≤ 32 ∧ q = (k, z (10, 0, 0) 0, 0) := by
  obtain ⟨k, i, l⟩ := q
  rw [kV_iff] at h1 h2
  rw [zset_0, zset_1, zset_ne (q := (9, 0, 0)) (by decide), zset_ne (q := (24, i, 0)) (fun e => by cases e)] at h1 h2
  rcases h1 with q | q | q | q | q | q | ⟨q1, q2, q3, q4⟩
  · exact absurd (Or.inl q) h2
  · exact absurd (Or.inr (Or.inl q)) h2
  · exact absurd (Or.inr (Or.inr (Or.inl q))) h2
  · exact absurd (Or.inr (Or.inr (Or.inr (Or.inl q)))) h2
  · exact absurd (Or.inr (Or.inr (Or.inr (Or.inr (Or.inl q))))) h2
  · exact absurd (Or.inr (Or.inr (Or.inr (Or.inr (Or.inr (Or.inl q)))))) h2
  · by_cases hi : i < z (10, 0, 0) 0
    · exact absurd (Or.inr (Or.inr (Or.inr (Or.inr (Or.inr (Or.inr ⟨q1, q2, hi, q4⟩)))))) h2
    · exact ⟨k, q1, q2, by rw [q4, show i = z (10, 0, 0) 0 by omega]⟩
section X69
variable {D : va_G} {N0 : Nat} {d : Nat} {E : RO → Nat} {S : CS} {K : Nat → Option XC} {h : XH}
theorem Rep.addP (R : Rep E (D.1 1000) S K h) {j p : Nat} (hj : j < S.2.2.2 (9, 0, 0) 0) (hL : S.2.2.1 (21, j, 0) 5 < 63) (hn : S.2.2.2 (24, j, 0) 0 ≤ 63) {am dl : Int32} {lo : Int64} (hc1 : h.2.1 + 2 ≤ xCmax) (hc2 : h.2.2.1 + 81 ≤ xSmax) :
    xV D N0 mC_addPromise (d + 7) 0 (xargs 6 [.ref (E (21, j, 0)), .int (nI p), .int am, .long lo, .int dl]) [] h (fun o u => o = .returned (some (.int (nI (S.2.2.2 (24, j, 0) 0)))) ∧ ∃ (E' : RO → Nat) (c : Nat) (mo : Int32), (∀ q, kV S.2.2.2 q → q ≠ (25, j, 0) → E' q = E q) ∧ Rep E' (D.1 1000) (czl (cprm S j (S.2.2.2 (24, j, 0) 0) p (cpart S j p) am lo dl) (24, j, 0) (S.2.2.2 (24, j, 0) 0 + 1) c mo) K u ∧ xMk h u 2 81) := by
  refine xV.step rfl ?_
  refine xV.step rfl ?_
  refine xV.step rfl ?_
  refine xV.step rfl ?_
  refine xV.cV rfl rfl (R.chan hj) rfl g_mC_addPromise_75 mC_makeState_ok (Nat.le_of_ble_eq_true rfl) (Nat.le_of_ble_eq_true rfl) (c_C_makeState (R.chan hj) (R.chan1 hj) (R.chan2 hj) hL (R.ne ⟨hj, rfl⟩ ⟨hj, rfl⟩ (fun z => by cases z)) (R.ne ⟨hj, rfl⟩ ⟨hj, rfl⟩ (fun z => by cases z)) (R.ne ⟨hj, rfl⟩ ⟨hj, rfl⟩ (fun z => by cases z))) ?_
  have R1 := R.state hj (nI p) (-am)
  have hs1 : ∀ u, u = hst h (E (21, j, 0)) (nI (S.2.2.1 (21, j, 0) 0)) (nI (S.2.2.1 (21, j, 0) 1)) (E (22, j, 0)) (E (23, j, 0)) (E (24, j, 0)) (S.2.2.1 (21, j, 0) 5) (S.1 (21, j, 0) 6) (S.1 (21, j, 0) 7) (S.1 (21, j, 0) 8) (S.1 (21, j, 0) 9) (S.1 (21, j, 0) 10) (bZ (S.1 (21, j, 0) 11)) (S.1 (22, j, 0)) (S.1 (23, j, 0)) (nI p) (-am) → u.2.1 = h.2.1 ∧ u.2.2.1 = h.2.2.1 ∧ xget u (E (21, j, 0)) = some (.inr (4, chF (nI (S.2.2.1 (21, j, 0) 0)) (nI (S.2.2.1 (21, j, 0) 1)) (E (22, j, 0)) (E (23, j, 0)) (E (24, j, 0)) (nI (S.2.2.1 (21, j, 0) 5 + 1)) (S.1 (21, j, 0) 6) (S.1 (21, j, 0) 7) (S.1 (21, j, 0) 8) (S.1 (21, j, 0) 9) (S.1 (21, j, 0) 10) (bZ (S.1 (21, j, 0) 11)))) := fun u hu => by
    subst hu
    exact ⟨rfl, rfl, xput_get⟩
  generalize hst h (E (21, j, 0)) (nI (S.2.2.1 (21, j, 0) 0)) (nI (S.2.2.1 (21, j, 0) 1)) (E (22, j, 0)) (E (23, j, 0)) (E (24, j, 0)) (S.2.2.1 (21, j, 0) 5) (S.1 (21, j, 0) 6) (S.1 (21, j, 0) 7) (S.1 (21, j, 0) 8) (S.1 (21, j, 0) 9) (S.1 (21, j, 0) 10) (bZ (S.1 (21, j, 0) 11)) (S.1 (22, j, 0)) (S.1 (23, j, 0)) (nI p) (-am) = u1 at R1 hs1 ⊢
  obtain ⟨s1, s2, hch⟩ := hs1 u1 rfl
  refine xV.wf (fun wf => ?_)
  have hlt := wf _ _ hch
  refine xV.step rfl ?_
  refine xV.get xcl_ok rfl hch rfl ?_
  refine xV.new xcl_ok (ci := 5) rfl rfl n_mC_addPromise_62 (by omega) (by show u1.2.2.1 + 8 ≤ _; omega) ?_
  have hch2 : xget (xnew u1 (.inr (5, xdf 5)) 8) (E (21, j, 0)) = some (.inr (4, chF (nI (S.2.2.1 (21, j, 0) 0)) (nI (S.2.2.1 (21, j, 0) 1)) (E (22, j, 0)) (E (23, j, 0)) (E (24, j, 0)) (nI (S.2.2.1 (21, j, 0) 5 + 1)) (S.1 (21, j, 0) 6) (S.1 (21, j, 0) 7) (S.1 (21, j, 0) 8) (S.1 (21, j, 0) 9) (S.1 (21, j, 0) 10) (bZ (S.1 (21, j, 0) 11)))) := by rw [xnew_ne (by omega)]; exact hch
  refine xV.step rfl ?_
  refine xV.step rfl ?_
  refine xV.step rfl ?_
  refine xV.step rfl ?_
  refine xV.cV rfl rfl hch2 rfl g_mC_addPromise_79 mC_partnerOf_ok (Nat.le_of_ble_eq_true rfl) (Nat.le_of_ble_eq_true rfl) (c_C_partnerOf hch2) ?_
  have ep : (if nI p = nI (S.2.2.1 (21, j, 0) 0) then nI (S.2.2.1 (21, j, 0) 1) else nI (S.2.2.1 (21, j, 0) 0)) = nI (cpart S j p) := by
    unfold cpart
    split <;> rfl
  rw [ep]
  refine xV.step rfl ?_
  refine xV.step rfl ?_
  refine xV.step rfl ?_
  refine xV.step rfl ?_
  refine xV.get xcl_ok rfl hch2 rfl ?_
  refine xV.cI rfl rfl g_mC_addPromise_82 mP_init_ok (Nat.le_of_ble_eq_true rfl) (Nat.le_of_ble_eq_true rfl) (c_P_init (a := u1.1) new_get) ?_
  rw [show xput (xnew u1 (.inr (5, xdf 5)) ("ChannelNet$Promise", xTP, 8).2.2) u1.1 (.inr (5, prF (nI p) (nI (cpart S j p)) am lo dl (nI (S.2.2.1 (21, j, 0) 5 + 1)) (-1) false)) = xnew u1 (.inr (5, prF (nI p) (nI (cpart S j p)) am lo dl (nI (S.2.2.1 (21, j, 0) 5 + 1)) (-1) false)) 8 from new_put]
  -- the promise is there, not yet in the list
  obtain ⟨E1, eN, hold⟩ : ∃ E1 : RO → Nat, E1 (26, j, S.2.2.2 (24, j, 0) 0) = u1.1 ∧ ∀ q, kV S.2.2.2 q → E1 q = E q := ⟨fun q => if q = (26, j, S.2.2.2 (24, j, 0) 0) then u1.1 else E q, if_pos rfl, fun q hq => if_neg (fun e => by
    rw [e] at hq
    exact absurd hq.2 (Nat.lt_irrefl _))⟩
  have R2 : Rep E1 (D.1 1000) (cprm S j (S.2.2.2 (24, j, 0) 0) p (cpart S j p) am lo dl) K (xnew u1 (.inr (5, prF (nI p) (nI (cpart S j p)) am lo dl (nI (S.2.2.1 (21, j, 0) 5 + 1)) (-1) false)) 8) := by
    have hno : ∀ q, kV S.2.2.2 q → q ≠ (26, j, S.2.2.2 (24, j, 0) 0) := fun q hq e => by
      rw [e] at hq
      exact absurd hq.2 (Nat.lt_irrefl _)
    refine R1.same hold ⟨rfl, rfl, fun _ _ => rfl, fun _ _ => rfl⟩ (fun q hq => ?_) wf (fun q hq => xnew_ne (by omega))
    unfold cprm
    rw [cset_f, cset_g, cset_w, if_neg (hno q hq), if_neg (hno q hq), if_neg (hno q hq)]
    exact ⟨rfl, rfl, rfl⟩
  refine xV.wf (fun wf2 => ?_)
  have hlt1 : ∀ q, kV S.2.2.2 q → E q < u1.1 := fun q hq => wf _ _ (R1.1 q hq)
  have hcell : xget (xnew u1 (.inr (5, prF (nI p) (nI (cpart S j p)) am lo dl (nI (S.2.2.1 (21, j, 0) 5 + 1)) (-1) false)) 8) u1.1 = some (.inr (5, prF (nI p) (nI (cpart S j p)) am lo dl (nI (S.2.2.1 (21, j, 0) 5 + 1)) (-1) false)) := new_get
  have hdat : (cprm S j (S.2.2.2 (24, j, 0) 0) p (cpart S j p) am lo dl).1 (26, j, S.2.2.2 (24, j, 0) 0) = pf0 am dl (nI (S.2.2.1 (21, j, 0) 5 + 1)) ∧ (cprm S j (S.2.2.2 (24, j, 0) 0) p (cpart S j p) am lo dl).2.1 (26, j, S.2.2.2 (24, j, 0) 0) = (fun _ => lo) ∧ (cprm S j (S.2.2.2 (24, j, 0) 0) p (cpart S j p) am lo dl).2.2.1 (26, j, S.2.2.2 (24, j, 0) 0) = pw0 p (cpart S j p) := by
    unfold cprm
    rw [cset_f, cset_g, cset_w, if_pos rfl, if_pos rfl, if_pos rfl]
    exact ⟨rfl, rfl, rfl⟩
  have hnv : nvOK E1 (D.1 1000) (cprm S j (S.2.2.2 (24, j, 0) 0) p (cpart S j p) am lo dl) K (xnew u1 (.inr (5, prF (nI p) (nI (cpart S j p)) am lo dl (nI (S.2.2.1 (21, j, 0) 5 + 1)) (-1) false)) 8) (24, j, 0) (25, j, 0) := by
    intro c E' hc hE q hq1 hq2
    obtain rfl : q = (26, j, S.2.2.2 (24, j, 0) 0) := nv24 hq1 hq2
    refine ⟨?_, (fun e => by cases e), (fun e => by cases e), fun p' hp' => ?_, fun c' hK => ?_, fun p' hp1 hp2 _ => nv24 hp1 hp2⟩
    · rw [eN, hcell, hdat.1, hdat.2.1, hdat.2.2]
      rfl
    · rw [hold p' hp', eN]
      exact Nat.ne_of_lt (hlt1 p' hp')
    · rw [eN] at hK
      exact absurd (wf _ _ (R1.2.2.1 _ _ hK).1) (Nat.lt_irrefl _)
  have hWz : ∀ c, S.2.2.2 (24, j, 0) 0 + 1 ≤ c → capOK c → kW (zset S.2.2.2 (24, j, 0) (S.2.2.2 (24, j, 0) 0 + 1) c) := by
    intro c hnc hc
    exact isL.kw (z := S.2.2.2) (lr := (24, j, 0)) (br := (25, j, 0)) (el := fun i => (26, j, i)) (Or.inr (Or.inr ⟨j, hj, rfl, rfl, rfl⟩)) R.2.2.2.2 (fun e => by cases e) hnc hc
  obtain ⟨E', c, mo, u, a1, a2, a3, a4, a5⟩ := R2.addL (D := D) (N0 := N0) (d := d) (lr := (24, j, 0)) (br := (25, j, 0)) (el := fun i => (26, j, i)) (x := u1.1) (ci := 5) (q := ("ChannelNet$Promise", xTP, 8)) (Or.inr (Or.inr ⟨j, hj, rfl, rfl, rfl⟩)) wf2 eN.symm hcell rfl cst_ch.2.1
    (fun i hi => ⟨_, by rw [hold (26, j, i) ⟨hj, hi⟩]; rw [xnew_ne (by have := hlt1 (26, j, i) ⟨hj, hi⟩; omega)]; exact R1.prom hj hi⟩)
    (by rw [hold (24, j, 0) ⟨hj, rfl⟩]; have := hlt1 (24, j, 0) ⟨hj, rfl⟩; omega) hn hnv hWz (by show u1.2.1 + 1 + 1 ≤ _; omega) (by show u1.2.2.1 + 8 + 73 ≤ _; omega)
  have e24 : E (24, j, 0) = E1 (24, j, 0) := (hold (24, j, 0) ⟨hj, rfl⟩).symm
  rw [← e24] at a1
  have hl24 : xget (xnew u1 (.inr (5, prF (nI p) (nI (cpart S j p)) am lo dl (nI (S.2.2.1 (21, j, 0) 5 + 1)) (-1) false)) 8) (E (24, j, 0)) = some (kLst (S.2.2.2 (24, j, 0)) (D.1 1000) (E (25, j, 0)) ((cst S j (nI p) (-am)).1 (24, j, 0) 0)) := by
    rw [xnew_ne (Nat.ne_of_lt (hlt1 (24, j, 0) ⟨hj, rfl⟩))]
    exact R1.1 (24, j, 0) ⟨hj, rfl⟩
  refine xV.cV rfl rfl hl24 rfl g_mC_addPromise_85 mA_add_ok (Nat.le_of_ble_eq_true rfl) (Nat.le_of_ble_eq_true rfl) a1 ?_
  replace a3 : Rep E' (D.1 1000) (czl (cprm S j (S.2.2.2 (24, j, 0) 0) p (cpart S j p) am lo dl) (24, j, 0) (S.2.2.2 (24, j, 0) 0 + 1) c mo) K u := a3
  have hE2 : ∀ q, kV S.2.2.2 q → q ≠ (25, j, 0) → E' q = E q := fun q hq hb => (a2 q hb).trans (hold q hq)
  have hj' : j < (czl (cprm S j (S.2.2.2 (24, j, 0) 0) p (cpart S j p) am lo dl) (24, j, 0) (S.2.2.2 (24, j, 0) 0 + 1) c mo).2.2.2 (9, 0, 0) 0 := by
    show j < zset S.2.2.2 (24, j, 0) (S.2.2.2 (24, j, 0) 0 + 1) c (9, 0, 0) 0
    rw [zset_ne (fun e => by cases e)]
    exact hj
  refine xV.step rfl ?_
  refine xV.step rfl ?_
  have hc' := a3.chan hj'
  rw [hE2 (21, j, 0) ⟨hj, rfl⟩ (fun e => by cases e)] at hc'
  refine xV.get xcl_ok rfl hc' rfl ?_
  have hl' := a3.lK hj'
  refine xV.lsz hl' rfl g_mC_addPromise_54 (Nat.le_of_ble_eq_true rfl) ?_
  have ez : (czl (cprm S j (S.2.2.2 (24, j, 0) 0) p (cpart S j p) am lo dl) (24, j, 0) (S.2.2.2 (24, j, 0) 0 + 1) c mo).2.2.2 (24, j, 0) 0 = S.2.2.2 (24, j, 0) 0 + 1 := zset_0 _ _ _ _
  rw [ez]
  refine xV.step rfl ?_
  refine xV.step rfl ?_
  rw [xn_pred]
  refine xV.iret rfl rfl rfl ⟨rfl, E', c, mo, hE2, a3, ?_, ?_⟩
  · have : u.2.1 ≤ u1.2.1 + 1 + 1 := a4
    omega
  · have : u.2.2.1 ≤ u1.2.2.1 + 8 + 73 := a5
    omega
end X69
