/- Part 99h: what the contracts of class and model ask for. -/
section X99h
variable {S : CS} {A : MS} {c k n s i p : Int32}
theorem Cpl.cN (C : Cpl S A) (z : cAt S c = true) : c = nI (ck c) ∧ ck c < S.2.2.2 (9, 0, 0) 0 := C.2.2.1.at z
theorem Cpl.kN (C : Cpl S A) (z : cAt S c = true) (y : inr0 k (S.2.2.2 (24, ck c, 0) 0) = true) : k = nI (ck k) ∧ ck k < S.2.2.2 (24, ck c, 0) 0 := inr0_of (by have := (C.cOK.1 _ (C.cN z).2).2.2.2; omega) y
theorem Cpl.pN (C : Cpl S A) (z : pAt S p = true) : p = nI (ck p) ∧ ck p < S.2.2.2 (10, 0, 0) 0 := C.2.2.2.2.1.at z
theorem Cpl.cM (C : Cpl S A) (z : isc A c = true) : ck c < kC S ∧ c = nI (ck c) ∧ ck c < 8 := by
  rw [isc_eq C.2.2.1] at z
  have := C.cN z
  have h8 := C.2.2.1.2.1
  exact ⟨this.2, this.1, Nat.lt_of_lt_of_le this.2 h8⟩
theorem Cpl.cM1 (C : Cpl S A) (z : isc A c = true) : c = nI (ck c) ∧ ck c < 8 := (C.cM z).2
theorem Cpl.cM2 (C : Cpl S A) (z : isc A c = true) : c = nI (ck c) ∧ ck c < 8 ∧ A.2.1 9 (ck c) = nI (kw S (ck c) 5) ∧ kw S (ck c) 5 < 64 := by
  have cc := C.2.2.1.2.2.1 _ (C.cM z).1
  exact ⟨(C.cM z).2.1, (C.cM z).2.2, cc.2.1.1, cc.2.1.2.1⟩
theorem Cpl.cM3 (C : Cpl S A) (z : isc A c = true) : c = nI (ck c) ∧ ck c < 8 ∧ A.2.1 9 (ck c) = nI (kw S (ck c) 5) ∧ kw S (ck c) 5 < 64 ∧ A.2.1 13 (ck c) = nI (kn S (ck c)) ∧ kn S (ck c) < 64 := by
  have cc := C.2.2.1.2.2.1 _ (C.cM z).1
  exact ⟨(C.cM z).2.1, (C.cM z).2.2, cc.2.1.1, cc.2.1.2.1, cc.2.1.2.2.1, Nat.lt_of_le_of_lt cc.2.1.2.2.2 cc.2.1.2.1⟩
theorem Cpl.cM4 (C : Cpl S A) (z : isc A c = true) : c = nI (ck c) ∧ ck c < 8 ∧ A.2.1 6 (ck c) = nI (kw S (ck c) 0) ∧ kw S (ck c) 0 < 6 ∧ A.2.1 7 (ck c) = nI (kw S (ck c) 1) ∧ kw S (ck c) 1 < 6 := by
  have cc := C.2.2.1.2.2.1 _ (C.cM z).1
  exact ⟨(C.cM z).2.1, (C.cM z).2.2, cc.1.1, cc.1.two.1, cc.1.2.1, cc.1.two.2⟩
theorem Cpl.cM5 (C : Cpl S A) (z : isc A c = true) : c = nI (ck c) ∧ ck c < 8 ∧ A.2.1 9 (ck c) = nI (kw S (ck c) 5) ∧ kw S (ck c) 5 < 64 ∧ A.2.1 6 (ck c) = nI (kw S (ck c) 0) ∧ kw S (ck c) 0 < 6 ∧ A.2.1 7 (ck c) = nI (kw S (ck c) 1) ∧ kw S (ck c) 1 < 6 := by
  have cc := C.2.2.1.2.2.1 _ (C.cM z).1
  exact ⟨(C.cM z).2.1, (C.cM z).2.2, cc.2.1.1, cc.2.1.2.1, cc.1.1, cc.1.two.1, cc.1.2.1, cc.1.two.2⟩
theorem Cpl.cM6 (C : Cpl S A) (z : isc A c = true) : c = nI (ck c) ∧ ck c < 8 ∧ A.2.1 13 (ck c) = nI (kn S (ck c)) ∧ kn S (ck c) ≤ 64 := by
  obtain ⟨a, b, c, d, e, f⟩ := C.cM3 z
  exact ⟨a, b, e, Nat.le_of_lt f⟩
theorem Cpl.pM (C : Cpl S A) (z : isp A p = true) : p = nI (ck p) ∧ ck p < 16 := by
  rw [isp_eq C.2.2.2.2.1] at z
  have := C.pN z
  exact ⟨this.1, Nat.lt_of_lt_of_le this.2 C.2.2.2.2.1.2.1⟩
theorem mbit_lt {x : Int64} (z : mbit x k = true) : k = nI (ck k) ∧ ck k < 64 := by
  unfold mbit at z
  obtain ⟨z1, z2, -⟩ := of_decide_eq_true z
  have : inr0 k 64 = true := decide_eq_true ⟨z1, z2⟩
  exact inr0_of (by decide) this
theorem C1.cke {j : Nat} (c1 : C1 S A j) (h : n = nI (S.2.2.1 (21, j, 0) 0) ∨ n = nI (S.2.2.1 (21, j, 0) 1)) : n = nI (ck n) := by
  obtain ⟨r, r1, r2, r3, -⟩ := c1.r h
  rw [r3]
  exact r2
theorem mkeep2_0 (A : MS) (j l q K : Nat) (x : Int64) : (mkeep2 A j l q K x).1 0 = 0 := by
  unfold mkeep2 mkeep
  simp only
  rw [(mlearn_ak _ _ _ _).1 0 (by decide), (mlearn_ak _ _ _ _).1 0 (by decide)]
  rfl
theorem mgo_0 (A : MS) (j q o : Nat) : (mgo A j q o).1 0 = A.1 0 := (mgo_ak A j q o).1 0 id
theorem mset_0 (A : MS) (j q f s : Nat) : (mset A j q f s).1 0 = 0 := (mset_ak A j q f s).1 0 id
theorem Cpl.pnM (C : Cpl S A) (z : isc A c = true) (y : mmay A (ck c) = true) : moth A (ck c) = nI (cpv S (ck c)) ∧ cpv S (ck c) < 6 := by
  have hj := (C.cM z).1
  have cc := C.2.2.1.2.2.1 _ hj
  rw [cmay_eq C hj] at y
  exact cc.oth (cc.2.2.2.1.2.2.1 (of_decide_eq_true y).1)
theorem Cpl.lfM (C : Cpl S A) (z : mleft A c k (ck c) = true) : k = nI (ck k) ∧ ck k < 64 ∧ mnode A (ck c) (A.2.1 14 (64 * ck c + ck k)) = nI (kq S (ck c) (ck k) 0) ∧ kq S (ck c) (ck k) 0 < 6 ∧ mnode A (ck c) (1 - A.2.1 14 (64 * ck c + ck k)) = nI (kq S (ck c) (ck k) 1) ∧ kq S (ck c) (ck k) 1 < 6 := by
  obtain ⟨h1, h2⟩ := (mleft_eq C).mp z
  have hj := (C.cN h1).2
  have cc := C.2.2.1.2.2.1 _ hj
  obtain ⟨e1, e2, -⟩ := gAt_of cc h2
  obtain ⟨r, r1, r2, r3, r4, r5, r6, r7⟩ := cc.2.2.2.2.2.1.ends cc.1 e2
  have o := C.cOK.2 _ _ hj e2
  have h3 := (C.cOK.1 _ hj).2.2.2
  have h4 := cc.2.1.2.2.2
  have h5 := cc.2.1.2.1
  exact ⟨e1, by omega, r6, o.1, r7, o.2⟩
theorem Cpl.stN (C : Cpl S A) (z : cAt S c = true) (y : S.1 (21, ck c, 0) 6 = 1) : S.1 (21, ck c, 0) 9 = nI (ck (kf S (ck c) 9)) ∧ ck (kf S (ck c) 9) < 64 := by
  have cc := C.2.2.1.2.2.1 _ (C.cN z).2
  obtain ⟨p1, p2⟩ := cc.pubd (cc.2.2.2.1.2.2.1 y)
  have h5 := cc.2.1.2.1
  exact ⟨p2, by omega⟩
theorem Cpl.stM (C : Cpl S A) (z : isc A c = true) (y : A.2.1 8 (ck c) = 1) : A.2.1 18 (ck c) = nI (ck (kf S (ck c) 9)) ∧ ck (kf S (ck c) 9) < 64 := by
  rw [isc_eq C.2.2.1] at z
  have cc := C.2.2.1.2.2.1 _ (C.cN z).2
  rw [cc.2.2.1.1] at y
  rw [cc.2.2.1.2.2.1]
  exact C.stN z y
theorem gr_n (z : 0 ≤ n ∧ n ≤ 1000) : n = nI (ck n) ∧ ck n ≤ 1000 := by
  have s1 := le_0.mp z.1
  have s2 : n.toInt ≤ 1000 := Int32.le_iff_toInt_le.mp z.2
  obtain ⟨e1, e2⟩ := ck_of s1 (by omega)
  exact ⟨e1, by omega⟩
theorem gr_t (z : tGrow n = 0) : n = nI (ck n) ∧ ck n ≤ 1000 := by
  unfold tGrow at z
  split at z
  · rename_i y
    exact gr_n y
  · exact absurd z (by decide)
theorem gin_0 (o : Nat → Nat) (n : Nat) (q : MS × Int32) (j : Nat) : (gin o q j n).1.1 0 = q.1.1 0 := by rw [gin_F]
theorem gout_0 (o : Nat → Nat) (C : Nat) (A : MS) : ∀ (n : Nat) (x : Int32), (gout o C (mF A 0 0, x) n).1.1 0 = 0 := by
  have : ∀ (n : Nat) (q : MS × Int32), (gout o C q n).1.1 0 = q.1.1 0 := by
    intro n
    induction n with
    | zero => intro q; rfl
    | succ n ih =>
      intro q
      unfold gout
      rw [ih, gin_0]
      rfl
  intro n x
  rw [this]
  rfl
theorem Cpl.hpN (C : Cpl S A) (z : 0 ≤ i ∧ i < nI (S.2.2.1 (11, 0, 0) 0)) : i = nI (ck i) ∧ ck i < S.2.2.1 (11, 0, 0) 0 := by
  have h5 := (p_hop (i := i) C).2.2.1
  exact inr0_of (by omega) (decide_eq_true z)
theorem Cpl.hpM (C : Cpl S A) (z : -1 ≤ i ∧ i ≤ A.1 28 - 1) (y : i ≠ -1) : i = nI (ck i) ∧ ck i < 5 := by
  obtain ⟨-, -, h5, e⟩ := p_hop (i := i) C
  rw [e, le_pred (by omega)] at z
  have z1 : (-1 : Int) ≤ i.toInt := Int32.le_iff_toInt_le.mp z.1
  have z2 : i.toInt ≠ -1 := fun w => y (Int32.toInt_inj.mp w)
  have := C.hpN ⟨le_0.mpr (by omega), z.2⟩
  exact ⟨this.1, by omega⟩
theorem Cpl.mdM (C : Cpl S A) (z : isc A c = true) (y : 0 ≤ k ∧ k ≤ A.2.1 13 (ck c) - 1) : k = nI (ck k) ∧ ck k < 64 := by
  obtain ⟨a1, a2, a3, a4, a5, a6⟩ := C.cM3 z
  rw [a5, le_pred (by omega)] at y
  have : inr0 k (kn S (ck c)) = true := decide_eq_true y
  have := inr0_of (by omega) this
  exact ⟨this.1, by omega⟩
theorem Cpl.suN (C : Cpl S A) (z : cAt S c = true) (y : 0 ≤ s ∧ s ≤ nI (S.2.2.1 (21, ck c, 0) 5)) : s = nI (ck s) ∧ ck s < 64 := by
  have cc := C.2.2.1.2.2.1 _ (C.cN z).2
  have h5 := cc.2.1.2.1
  have s1 := le_0.mp y.1
  have s2 := (le_n (n := kw S (ck c) 5) (by omega)).mp y.2
  obtain ⟨e1, e2⟩ := ck_of s1 (by omega)
  exact ⟨e1, by omega⟩
theorem Cpl.suM (C : Cpl S A) (z : isc A c = true) (y : 0 ≤ s ∧ s ≤ A.2.1 9 (ck c)) : s = nI (ck s) ∧ ck s < 64 := by
  rw [(C.cM2 z).2.2.1] at y
  rw [isc_eq C.2.2.1] at z
  exact C.suN z y
end X99h
section Y99h
variable {D : va_G} {N0 d m : Nat} {S : CS} {A : MS} {h : XH}
theorem tNd_1 (n : Int32) : mF A 0 1 = mF A 0 (tNd n) ∨ tNd n = 0 := by
  unfold tNd
  by_cases e : nd n = true
  · rw [if_pos e]
    exact Or.inr rfl
  · rw [if_neg e]
    exact Or.inl rfl
theorem xTw_t {t : Int32} {o1 o0 : Outcome} {u1 u2 u0 : XH} {o : Outcome} {u : XH} (e : u1 = u2 ∨ t = 0) (z : xTw t o1 u1 o0 u0 o u) : xTw t o1 u2 o0 u0 o u := by
  rcases z with ⟨z1, z2, z3⟩ | z
  · rcases e with e | e
    · exact Or.inl ⟨z1, z2, z3.trans e⟩
    · exact absurd e z1
  · exact Or.inr z
theorem hm_t {t : Int32} (e : mF A 0 1 = mF A 0 t ∨ t = 0) : hm m (mF A 0 1) h = hm m (mF A 0 t) h ∨ t = 0 := e.imp (fun z => by rw [z]) id
theorem c_M_coins0 {j : Nat} {n : Int32} (hn : nd n = true → n = nI j ∧ j < 6) : xV D N0 mM_coins (d + 2) 0 (xargs 2 [.ref m, .int n]) [] (hm m A h) (xTw (tNd n) (.returned (some (.int 0))) (hm m (mF A 0 (tNd n)) h) (.returned (some (.int (A.2.1 1 j)))) (hm m (mF A 0 0) h)) := xV.mono (fun _ _ z => xTw_t (hm_t (tNd_1 n)) z) (c_M_coins hn)
theorem c_M_knows0 {K : Nat} (hK : A.1 25 = nI K) (hK2 : K ≤ 24) {n : Int32} {k : Int64} : xV D N0 mM_knows (d + 2) 0 (xargs 4 [.ref m, .int n, .long k]) [] (hm m A h) (xTw (tNd n) (.returned (some (.int 0))) (hm m (mF A 0 (tNd n)) h) (.returned (some (.int (xB (mknows A K n k))))) (hm m (mF A 0 0) h)) := xV.mono (fun _ _ z => xTw_t (hm_t (tNd_1 n)) z) (c_M_knows hK hK2)
theorem c_M_watch0 {j : Nat} {n x : Int32} (hn : nd n = true → n = nI j ∧ j < 6) (hx : narrow .boolean (.int x) = .int x) : xV D N0 mM_watch (d + 2) 0 (xargs 3 [.ref m, .int n, .int x]) [] (hm m A h) (xTw (tNd n) (.returned none) (hm m (mF A 0 (tNd n)) h) (.returned none) (hm m (mI (mF A 0 0) 5 j x) h)) := xV.mono (fun _ _ z => xTw_t (hm_t (tNd_1 n)) z) (c_M_watch hn hx)
theorem c_M_hop0 {i : Int32} (C : Cpl S A) : xV D N0 mM_hop (d + 3) 0 (xargs 2 [.ref m, .int i]) [] (hm m A h) (xTw (tHop A i) (.returned (some (.int 0))) (hm m (mF A 0 (tHop A i)) h) (.returned (some (.int (rHop A (ck i) i)))) (hm m (mF A 0 0) h)) := by
  refine xV.mono (fun _ _ z => xTw_t (hm_t ?_) z) (c_M_hop C.hpM)
  unfold tHop
  split
  · exact Or.inr rfl
  · exact Or.inl rfl
theorem c_M_publish0 {c n s : Int32} (C : Cpl S A) : xV D N0 mM_publish (d + 3) 0 (xargs 5 [.ref m, .int c, .int n, .int s]) [] (hm m A h) (xTw (tPub A c n s (ck c)) (.returned none) (hm m (mF A 0 (tPub A c n s (ck c))) h) (.returned none) (hm m (mpub A (ck c) (ck s) n) h)) := by
  by_cases z : isc A c = true
  · exact c_M_publish C.cM1 (C.suM z)
  · have e : ∀ j, tPub A c n s j = 1 := fun j => by
      unfold tPub
      rw [if_neg (fun y => z y.1)]
    have h9 : ∃ l, A.2.1 9 0 = nI l ∧ l < 64 := by
      rcases Nat.lt_or_ge 0 (kC S) with y | y
      · have cc := C.2.2.1.2.2.1 _ y
        exact ⟨_, cc.2.1.1, cc.2.1.2.1⟩
      · exact ⟨0, (C.2.2.1.2.2.2 0 y (by decide)).2.1, by decide⟩
    obtain ⟨l, l1, l2⟩ := h9
    have q := c_M_publish (D := D) (N0 := N0) (d := d) (m := m) (h := h) (A := A) (j := 0) (q := ck s) (c := c) (n := n) (s := s) (fun y => absurd y z) (fun y => by
      rw [l1] at y
      have s1 := le_0.mp y.1
      have s2 := (le_n (n := l) (by omega)).mp y.2
      obtain ⟨e1, e2⟩ := ck_of s1 (by omega)
      exact ⟨e1, by omega⟩)
    refine xV.mono (fun o u y => ?_) q
    rw [e] at y
    rw [e]
    rcases y with y | y
    · exact Or.inl y
    · exact absurd y.1 (by decide)
end Y99h
