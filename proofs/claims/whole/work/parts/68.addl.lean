/- Part 68: an element added to a list of the class. -/
theorem kArr_up {z z' q : Nat → Nat} (h0 : z' 0 = z 0 + 1) (h1 : z' 1 = z 1) : kArr z' q = oA (z 1) (va_up (fun i => if i < z 0 then some (q i) else none) (z 0) (some (q (z 0)))) := by
  have e : (fun i => if i < z' 0 then some (q i) else none) = va_up (fun i => if i < z 0 then some (q i) else none) (z 0) (some (q (z 0))) := by
    funext i
    show (if i < z' 0 then some (q i) else none) = (if i = z 0 then some (q (z 0)) else if i < z 0 then some (q i) else none)
    rw [h0]
    by_cases hi : i = z 0
    · rw [if_pos hi, if_pos (by omega), hi]
    · rw [if_neg hi]
      by_cases hi2 : i < z 0
      · rw [if_pos hi2, if_pos (by omega)]
      · rw [if_neg hi2, if_neg (by omega)]
  unfold kArr oA
  rw [e, h1]
theorem kArr_cp {z z' q : Nat → Nat} {N : Nat} (h0 : z' 0 = z 0) (h1 : z' 1 = N) : kArr z' q = oA N (va_cpy (fun i => if i < z 0 then some (q i) else none) (fun _ => none) 0 0 (z 0)) := by
  have e : (fun i => if i < z' 0 then some (q i) else none) = va_cpy (fun i => if i < z 0 then some (q i) else none) (fun _ => none) 0 0 (z 0) := by
    funext i
    show (if i < z' 0 then some (q i) else none) = (if 0 ≤ i ∧ i < 0 + z 0 then (if 0 + (i - 0) < z 0 then some (q (0 + (i - 0))) else none) else none)
    rw [h0]
    by_cases hi : i < z 0
    · rw [if_pos hi, if_pos ⟨by omega, by omega⟩, show 0 + (i - 0) = i by omega, if_pos hi]
    · rw [if_neg hi, if_neg (by omega)]
  unfold kArr oA
  rw [e, h1]
section X68
variable {D : va_G} {N0 : Nat} {d : Nat} {E : RO → Nat} {S : CS} {K : Nat → Option XC} {h : XH} {lr br : RO} {el : Nat → RO}
/-- the objects that come with a new element -/
def nvOK (E : RO → Nat) (dc : Nat) (S : CS) (K : Nat → Option XC) (h : XH) (lr br : RO) : Prop :=
  ∀ (c : Nat) (E' : RO → Nat), 0 < c → (∀ q, q ≠ br → E' q = E q) → ∀ q, kV (zset S.2.2.2 lr (S.2.2.2 lr 0 + 1) c) q → ¬ kV (zset S.2.2.2 lr (S.2.2.2 lr 0) c) q →
    xget h (E q) = some (kcell E' dc (zset S.2.2.2 lr (S.2.2.2 lr 0 + 1) c) q (S.1 q) (S.2.1 q) (S.2.2.1 q)) ∧ q ≠ br ∧ q ≠ lr ∧ (∀ p, kV S.2.2.2 p → E p ≠ E q) ∧ (∀ c', K (E q) ≠ some c') ∧ ∀ p, kV (zset S.2.2.2 lr (S.2.2.2 lr 0 + 1) c) p → ¬ kV (zset S.2.2.2 lr (S.2.2.2 lr 0) c) p → E p = E q → p = q
theorem isL.up {z : RO → Nat → Nat} {c : Nat} {q : RO} (hq : kV (zset z lr (z lr 0) c) q) : kV (zset z lr (z lr 0 + 1) c) q := by
  obtain ⟨k, i, l⟩ := q
  have e1 : ∀ q, zset z lr (z lr 0 + 1) c q 1 = zset z lr (z lr 0) c q 1 := fun q => by
    by_cases e : q = lr
    · rw [e, zset_1, zset_1]
    · rw [zset_ne e, zset_ne e]
  have e0 : ∀ q, zset z lr (z lr 0) c q 0 ≤ zset z lr (z lr 0 + 1) c q 0 := fun q => by
    by_cases e : q = lr
    · rw [e, zset_0, zset_0]
      exact Nat.le_succ _
    · rw [zset_ne e, zset_ne e]
      exact Nat.le_refl _
  rw [kV_iff] at hq ⊢
  simp only [e1]
  rcases hq with q | q | q | ⟨q1, q2, q3, q4⟩ | ⟨q1, q2, q3⟩ | ⟨q1, q2, q3⟩ | ⟨q1, q2, q3, q4⟩
  · exact Or.inl q
  · exact Or.inr (Or.inl q)
  · exact Or.inr (Or.inr (Or.inl q))
  · exact Or.inr (Or.inr (Or.inr (Or.inl ⟨q1, q2, Nat.lt_of_lt_of_le q3 (e0 _), q4⟩)))
  · exact Or.inr (Or.inr (Or.inr (Or.inr (Or.inl ⟨q1, Nat.lt_of_lt_of_le q2 (e0 _), q3⟩))))
  · exact Or.inr (Or.inr (Or.inr (Or.inr (Or.inr (Or.inl ⟨q1, Nat.lt_of_lt_of_le q2 (e0 _), Nat.lt_of_lt_of_le q3 (e0 _)⟩)))))
  · exact Or.inr (Or.inr (Or.inr (Or.inr (Or.inr (Or.inr ⟨q1, q2, Nat.lt_of_lt_of_le q3 (e0 _), q4⟩)))))
theorem zset_zset (z : RO → Nat → Nat) (lr : RO) (n c n' c' : Nat) : zset (zset z lr n c) lr n' c' = zset z lr n' c' := by
  funext q i
  unfold zset
  by_cases e : q = lr
  · rw [if_pos e, if_pos e]
    by_cases e0 : i = 0
    · rw [if_pos e0, if_pos e0]
    · rw [if_neg e0, if_neg e0]
      by_cases e1 : i = 1
      · rw [if_pos e1, if_pos e1]
      · rw [if_neg e1, if_neg e1, if_pos rfl, if_neg e0, if_neg e1]
  · rw [if_neg e, if_neg e, if_neg e]
theorem zset_same (z : RO → Nat → Nat) (lr : RO) : zset z lr (z lr 0) (z lr 1) = z := by
  funext q i
  unfold zset
  by_cases e : q = lr
  · rw [if_pos e, e]
    by_cases e0 : i = 0
    · rw [if_pos e0, e0]
    · rw [if_neg e0]
      by_cases e1 : i = 1
      · rw [if_pos e1, e1]
      · rw [if_neg e1]
  · rw [if_neg e]
theorem Rep.addL (R : Rep E (D.1 1000) S K h) (hL : isL S.2.2.2 lr br el) (hl : ∀ (a : Nat) (c : XC), xget h a = some c → a < h.1) {x ci : Nat} {fs : List Value} {q : vw_C} (hx : x = E (el (S.2.2.2 lr 0))) (hxc : xget h x = some (.inr (ci, fs))) (hq : xcl[ci]? = some q) (hw : xW (.castable q.1 "java/lang/Object")) (hci : ∀ i, i < S.2.2.2 lr 0 → ∃ fs, xget h (E (el i)) = some (.inr (ci, fs))) (hxl : x ≠ E lr) (hn : S.2.2.2 lr 0 ≤ 63) (hnv : nvOK E (D.1 1000) S K h lr br) (hW : ∀ c, S.2.2.2 lr 0 + 1 ≤ c → capOK c → kW (zset S.2.2.2 lr (S.2.2.2 lr 0 + 1) c)) (hc1 : h.2.1 + 1 ≤ xCmax) (hc2 : h.2.2.1 + 73 ≤ xSmax) :
    ∃ (E' : RO → Nat) (c : Nat) (mo : Int32) (u : XH), xV D N0 mA_add (d + 6) 0 (xargs 2 [.ref (E lr), .ref x]) [] h (xEq (.returned (some (.int 1))) u) ∧ (∀ q, q ≠ br → E' q = E q) ∧ Rep E' (D.1 1000) (czl S lr (S.2.2.2 lr 0 + 1) c mo) K u ∧ u.2.1 ≤ h.2.1 + 1 ∧ u.2.2.1 ≤ h.2.2.1 + 73 := by
  obtain ⟨hcap, hcap2⟩ := hL.cap R.2.2.2.2
  have hlr := R.1 lr hL.v
  rw [hL.cl] at hlr
  have hlt := hl _ _ hlr
  have hxt := hl _ _ hxc
  have hne := hL.ne
  by_cases hroom : S.2.2.2 lr 0 < S.2.2.2 lr 1
  · -- room in the array
    have hbr := R.1 br (hL.b (by omega))
    rw [hL.cb] at hbr
    have hbl : E br ≠ E lr := R.ne (hL.b (by omega)) hL.v hne
    have ha : xget h (E lr) = some (lF (E br) (S.2.2.2 lr 0) (S.1 lr 0)) := by
      rw [hlr]
      unfold kLst lF
      rw [if_neg (by omega)]
    refine ⟨E, S.2.2.2 lr 1, S.1 lr 0 + 1, _, c_A_add_room (d := d + 5) ha hbr hroom hcap2.le hxc hq hw hbl hxl, fun _ _ => rfl, ?_, Nat.le_succ _, Nat.le_add_right _ _⟩
    have hz := zset_same S.2.2.2 lr
    have R2 := R.addE hL (S.1 lr 0 + 1) (hW _ (by omega) hcap2) (by omega) (fun q hq => isL.up (c := S.2.2.2 lr 1) (by rw [hz]; exact hq)) (fun q hq1 hq2 => by
      obtain ⟨y1, -, -, y2, y3, y4⟩ := hnv (S.2.2.2 lr 1) E (by omega) (fun _ _ => rfl) q hq1 (by rw [hz]; exact hq2)
      exact ⟨y1, y2, y3, fun p p1 p2 e => y4 p p1 (by rw [hz]; exact p2) e⟩)
    rw [kArr_up (z := S.2.2.2 lr) (zset_0 _ _ _ _) (zset_1 _ _ _ _), ← hx] at R2
    unfold kLst at R2
    rw [zset_0, zset_1, if_neg (by omega)] at R2
    exact R2
  -- a new array
  have hfull : S.2.2.2 lr 0 = S.2.2.2 lr 1 := by omega
  have grow : ∀ (c e0 : Nat) (ro : Bool) (g0 g : Nat → Option Nat), capOK c → S.2.2.2 lr 0 + 1 ≤ c → c ≤ 73 → xget h (E lr) = some (lF e0 (S.2.2.2 lr 0) (S.1 lr 0)) → xget h e0 = some (.inl (ro, .object "java/lang/Object", S.2.2.2 lr 0, .inr (.inr (.inr (.inr g0))))) → e0 ≠ E lr → (∀ u : XH, u.1 = h.1 → u.2.1 = h.2.1 → u.2.2.1 = h.2.2.1 → xget u (E lr) = some (lF e0 (S.2.2.2 lr 0) (S.1 lr 0 + 1)) → (∀ p, p ≠ E lr → xget u p = xget h p) → xV D N0 mA_grow (d + 4) 0 (xargs 1 [.ref (E lr)]) [] u (xEq (.returned (some (.ref u.1))) (xput (xnew u (oA c g) c) (E lr) (lF u.1 (S.2.2.2 lr 0) (S.1 lr 0 + 1))))) → kArr (zset S.2.2.2 lr (S.2.2.2 lr 0) c lr) (fun i => E (el i)) = oA c g →
      ∃ (E' : RO → Nat) (c : Nat) (mo : Int32) (u : XH), xV D N0 mA_add (d + 6) 0 (xargs 2 [.ref (E lr), .ref x]) [] h (xEq (.returned (some (.int 1))) u) ∧ (∀ q, q ≠ br → E' q = E q) ∧ Rep E' (D.1 1000) (czl S lr (S.2.2.2 lr 0 + 1) c mo) K u ∧ u.2.1 ≤ h.2.1 + 1 ∧ u.2.2.1 ≤ h.2.2.1 + 73 := by
    intro c e0 ro g0 g hc hnc hc73 ha he n1 hg hgg
    refine ⟨fun q => if q = br then h.1 else E q, c, S.1 lr 0 + 1, _, c_A_add_grow (n0 := c) ha he (by omega) (by omega) (by omega) hxc hq hw n1 hxl hlt hxt rfl (hg _ rfl rfl rfl xput_get (fun p hp => xput_ne hp)), fun q hq => if_neg hq, ?_, by show h.2.1 + 1 ≤ _; omega, by show h.2.2.1 + c ≤ _; omega⟩
    have R1 := R.regrow hL hl (c := c) (n0 := c) (by omega) (by omega) hc (S.1 lr 0 + 1)
    have hz1 : (czl S lr (S.2.2.2 lr 0) c (S.1 lr 0 + 1)).2.2.2 = zset S.2.2.2 lr (S.2.2.2 lr 0) c := rfl
    have hL1 : isL (czl S lr (S.2.2.2 lr 0) c (S.1 lr 0 + 1)).2.2.2 lr br el := by
      rw [hz1]
      rcases hL with y | y | ⟨j, hj, y⟩
      · exact Or.inl y
      · exact Or.inr (Or.inl y)
      · refine Or.inr (Or.inr ⟨j, ?_, y⟩)
        rw [zset_ne (by rw [y.1]; intro e; cases e)]
        exact hj
    have z0 : (czl S lr (S.2.2.2 lr 0) c (S.1 lr 0 + 1)).2.2.2 lr 0 = S.2.2.2 lr 0 := zset_0 _ _ _ _
    have z1 : (czl S lr (S.2.2.2 lr 0) c (S.1 lr 0 + 1)).2.2.2 lr 1 = c := zset_1 _ _ _ _
    have zz : zset (czl S lr (S.2.2.2 lr 0) c (S.1 lr 0 + 1)).2.2.2 lr (S.2.2.2 lr 0 + 1) c = zset S.2.2.2 lr (S.2.2.2 lr 0 + 1) c := by rw [hz1, zset_zset]
    have eL : (fun q => if q = br then h.1 else E q) lr = E lr := if_neg (Ne.symm hne)
    have eB : (fun q => if q = br then h.1 else E q) br = h.1 := if_pos rfl
    have eEl : (fun i => (fun q => if q = br then h.1 else E q) (el i)) = fun i => E (el i) := by
      funext i
      refine if_neg ?_
      rcases hL with ⟨-, rfl, rfl⟩ | ⟨-, rfl, rfl⟩ | ⟨j, -, -, rfl, rfl⟩ <;> (intro e; cases e)
    have R2 := R1.addE hL1 (S.1 lr 0 + 1) (by rw [z0, z1, zz]; exact hW c hnc hc) (by rw [z1]; omega) (fun q hq => by
      rw [z0, z1, zz]
      exact isL.up (c := c) hq) (fun q hq1 hq2 => by
      rw [z0, z1, zz] at hq1
      obtain ⟨y1, yb, yl, y2, y3, y4⟩ := hnv c (fun q => if q = br then h.1 else E q) (by omega) (fun q hq => if_neg hq) q hq1 hq2
      rw [z0, z1, zz]
      simp only [if_neg yb]
      have hxq := hl _ _ y1
      refine ⟨?_, fun p hp => ?_, y3, fun p p1 p2 e => ?_⟩
      · rw [xput_ne (Ne.symm (y2 lr hL.v)), xnew_ne (by omega)]
        rw [y1]
        show _ = some (kcell _ _ _ q (if q = lr then _ else S.1 q) (S.2.1 q) (S.2.2.1 q))
        rw [if_neg yl]
      · by_cases pb : p = br
        · rw [if_pos pb]
          omega
        · rw [if_neg pb]
          exact y2 p (((hL.vc (by omega)).mp hp).resolve_right pb)
      · obtain ⟨-, ypb, -⟩ := hnv c (fun q => if q = br then h.1 else E q) (by omega) (fun q hq => if_neg hq) p p1 p2
        rw [if_neg ypb] at e
        exact y4 p p1 p2 e)
    have eEl2 : (fun i => if el i = br then h.1 else E (el i)) = fun i => E (el i) := eEl
    rw [z0, z1, zz, if_pos rfl, if_neg (Ne.symm hne), eEl2, hgg] at R2
    have e1 : kArr (zset S.2.2.2 lr (S.2.2.2 lr 0 + 1) c lr) (fun i => E (el i)) = oA c (va_up g (S.2.2.2 lr 0) (some x)) := by
      have e2 := kArr_up (z := zset S.2.2.2 lr (S.2.2.2 lr 0) c lr) (z' := zset S.2.2.2 lr (S.2.2.2 lr 0 + 1) c lr) (q := fun i => E (el i)) (by rw [zset_0, zset_0]) (by rw [zset_1, zset_1])
      rw [zset_0, zset_1, ← hx] at e2
      rw [e2]
      have e3 : (fun i => if i < S.2.2.2 lr 0 then some (E (el i)) else none) = g := by
        unfold kArr oA at hgg
        rw [zset_0, zset_1] at hgg
        simp only [Sum.inl.injEq, Prod.mk.injEq, Sum.inr.injEq, true_and] at hgg
        exact hgg
      rw [e3]
    rw [e1, xput_comm (a := E lr) (b := h.1) (by omega), new_put, xput_put] at R2
    unfold kLst at R2
    rw [zset_0, zset_1, if_neg (by omega)] at R2
    have e4 : czl (czl S lr (S.2.2.2 lr 0) c (S.1 lr 0 + 1)) lr (S.2.2.2 lr 0 + 1) c (S.1 lr 0 + 1) = czl S lr (S.2.2.2 lr 0 + 1) c (S.1 lr 0 + 1) := by
      unfold czl
      refine Prod.ext ?_ (Prod.ext rfl (Prod.ext rfl ?_))
      · funext q i
        simp only
        by_cases e : q = lr
        · rw [if_pos e, if_pos e, if_pos True.intro]
          unfold upd
          by_cases e0 : i = 0 <;> simp [e0]
        · rw [if_neg e, if_neg e]
      · exact zset_zset _ _ _ _ _ _
    rw [e4] at R2
    exact R2
  obtain ⟨gd, hgd⟩ := R.dcs
  by_cases h0 : S.2.2.2 lr 1 = 0
  · have hn0 : S.2.2.2 lr 0 = 0 := by omega
    have ha : xget h (E lr) = some (lF (D.1 1000) (S.2.2.2 lr 0) (S.1 lr 0)) := by
      rw [hlr]
      unfold kLst lF
      rw [if_pos h0]
    have hdc : D.1 1000 ≠ E lr := fun e => by
      rw [e, hlr] at hgd
      cases hgd
    refine grow 10 (D.1 1000) true gd (fun _ => none) (by unfold capOK; omega) (by omega) (by omega) ha (by rw [hn0]; exact hgd) hdc (fun u u1 u2 u3 u4 u5 => ?_) ?_
    · rw [hn0] at u4 ⊢
      exact c_A_grow_first u4 (by rw [u5 _ hdc]; exact hgd) (by omega) (by omega) (by omega)
    · rw [kArr_cp (z := S.2.2.2 lr) (N := 10) (zset_0 _ _ _ _) (zset_1 _ _ _ _)]
      congr 1
      funext i
      unfold va_cpy
      rw [if_neg (by omega)]
  · have hcs : S.2.2.2 lr 0 = 10 ∨ S.2.2.2 lr 0 = 15 ∨ S.2.2.2 lr 0 = 22 ∨ S.2.2.2 lr 0 = 33 ∨ S.2.2.2 lr 0 = 49 := by
      unfold capOK at hcap2
      omega
    have hbr := R.1 br (hL.b (by omega))
    rw [hL.cb] at hbr
    have hbl : E br ≠ E lr := R.ne (hL.b (by omega)) hL.v hne
    have hbt := hl _ _ hbr
    have ha : xget h (E lr) = some (lF (E br) (S.2.2.2 lr 0) (S.1 lr 0)) := by
      rw [hlr]
      unfold kLst lF
      rw [if_neg (by omega)]
    have hbr2 : xget h (E br) = some (oA (S.2.2.2 lr 0) (fun i => if i < S.2.2.2 lr 0 then some (E (el i)) else none)) := by
      rw [hbr]
      unfold kArr oA
      rw [← hfull]
    refine grow (S.2.2.2 lr 0 + S.2.2.2 lr 0 / 2) (E br) false _ (va_cpy (fun i => if i < S.2.2.2 lr 0 then some (E (el i)) else none) (fun _ => none) 0 0 (S.2.2.2 lr 0)) (by unfold capOK; omega) (by omega) (by omega) ha hbr2 hbl (fun u u1 u2 u3 u4 u5 => ?_) (kArr_cp (z := S.2.2.2 lr) (zset_0 _ _ _ _) (zset_1 _ _ _ _))
    refine c_A_grow_full u4 (by rw [u5 _ hbl]; exact hbr2) hcs (by omega) (by omega) (fun i y hi hy => ?_) (by omega) (by omega)
    rw [if_pos hi] at hy
    cases hy
    obtain ⟨fs', hfs⟩ := hci i hi
    have hel : E (el i) ≠ E lr := by
      rcases hL with ⟨rfl, rfl, rfl⟩ | ⟨rfl, rfl, rfl⟩ | ⟨j, hj, rfl, rfl, rfl⟩
      · exact R.ne ⟨hi, rfl⟩ kV_9 (fun e => by cases e)
      · exact R.ne ⟨hi, rfl⟩ kV_10 (fun e => by cases e)
      · exact R.ne ⟨hj, hi⟩ ⟨hj, rfl⟩ (fun e => by cases e)
    exact ⟨ci, fs', q, by rw [u5 _ hel]; exact hfs, by rw [u1]; exact hl _ _ hfs, hq, hw⟩
end X68
