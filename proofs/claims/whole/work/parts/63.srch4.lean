/- Part 63: the class's search. -/
theorem xupd_self (f : Nat → Int32) (i : Nat) (x : Int32) : upd f i x i = x := by simp [upd]
theorem xupd_ne {f : Nat → Int32} {i j : Nat} {x : Int32} (h : j ≠ i) : upd f i x j = f j := by simp [upd, h]
theorem xcpy {f g : Nat → Int32} {q : Nat} (h : q < 5) : va_cpy f g 0 0 5 q = f q := by
  unfold va_cpy
  rw [if_pos ⟨by omega, by omega⟩]
  congr 1
  omega
def cpay (S : CS) (i : Nat) (x : Int32) : Int32 := if x = nI (S.2.2.1 (21, i, 0) 0) then nI (S.2.2.1 (21, i, 0) 1) else nI (S.2.2.1 (21, i, 0) 0)
def ccarC (S : CS) (i : Nat) (p a : Int32) : Bool := ccar (nI (S.2.2.1 (21, i, 0) 0)) (nI (S.2.2.1 (21, i, 0) 5)) (S.1 (21, i, 0) 6) (S.1 (22, i, 0) (S.2.2.1 (21, i, 0) 5)) (S.1 (23, i, 0) (S.2.2.1 (21, i, 0) 5)) (S.2.2.2 (24, i, 0) 0) (fun k => S.1 (26, i, k) 5) (fun k => S.1 (26, i, k) 6) p a
def cokb (S : CS) (x a ps : Int32) (i : Nat) : Bool := decide (x = nI (S.2.2.1 (21, i, 0) 0) ∨ x = nI (S.2.2.1 (21, i, 0) 1)) && (decide ((ps >>> (cpay S i x &&& 31)) &&& 1 = 0) && ccarC S i (cpay S i x) a)
def cfee (S : CS) (p a : Int32) : Int32 := S.1 (2, 0, 0) p.toNatClampNeg + (a.toInt64 * (S.1 (3, 0, 0) p.toNatClampNeg).toInt64 / 1000000).toInt32
def cone (nxt : Int32 → Int32 → Int32 → SP → SP → SP) (S : CS) (fr x a ps : Int32) (T : SP) (i : Nat) (B : SP) : SP :=
  if cokb S x a ps i = true then (if cpay S i x = fr then (if sbet a.toInt64 ((i, cpay S i x, a.toInt64) :: T) B = true then (i, cpay S i x, a.toInt64) :: T else B) else nxt (cpay S i x) (a + cfee S (cpay S i x) a) (ps ||| ((1 : Int32) <<< (cpay S i x &&& 31))) ((i, cpay S i x, a.toInt64) :: T) B) else B
def cgo (S : CS) (fr : Int32) : Nat → Int32 → Int32 → Int32 → SP → SP → SP
  | 0, _, _, _, _, B => B
  | k + 1, x, a, ps, T, B => sloop (cone (cgo S fr k) S fr x a ps T) 0 (S.2.2.2 (9, 0, 0) 0) B
/-- a route in its three arrays, its first channel at the end -/
def RepY (c p m : Nat → Int32) : SP → Prop
  | [] => True
  | e :: T => c T.length = nI e.1 ∧ e.1 < 8 ∧ p T.length = e.2.1 ∧ (m T.length).toInt64 = e.2.2 ∧ RepY c p m T
theorem RepY.w {c p m : Nat → Int32} : ∀ {T : SP}, RepY c p m T → RepW c T
  | [], _ => True.intro
  | _ :: _, h => ⟨h.1, h.2.1, h.2.2.2.2.w⟩
theorem RepY.of {c p m c' p' m' : Nat → Int32} : ∀ {T : SP}, RepY c p m T → (∀ i, i < T.length → c' i = c i ∧ p' i = p i ∧ m' i = m i) → RepY c' p' m' T
  | [], _, _ => True.intro
  | e :: T, h, hs => by
    obtain ⟨h1, h2, h3⟩ := hs T.length (by simp)
    exact ⟨h1.trans h.1, h.2.1, h2.trans h.2.2.1, by rw [h3]; exact h.2.2.2.1, h.2.2.2.2.of (fun i hi => hs i (by simp; omega))⟩
/-- what the search leaves as it was -/
def cSame (S S' : CS) : Prop := (∀ q : RO, q.1 < 11 ∨ 18 < q.1 → S'.1 q = S.1 q ∧ S'.2.1 q = S.2.1 q ∧ S'.2.2.1 q = S.2.2.1 q) ∧ S'.2.2.2 = S.2.2.2
theorem cSame.put {S S' : CS} (h : cSame S S') {r : RO} (hr : 11 ≤ r.1 ∧ r.1 ≤ 18) (f : Nat → Int32) (g : Nat → Int64) (w : Nat → Nat) : cSame S (cset S' r f g w) := by
  refine ⟨fun q hq => ?_, h.2⟩
  have hne : q ≠ r := fun z => by rw [z] at hq; omega
  obtain ⟨h1, h2, h3⟩ := h.1 q hq
  rw [cset_f, cset_g, cset_w, if_neg hne, if_neg hne, if_neg hne]
  exact ⟨h1, h2, h3⟩
/-- the best route so far -/
def bestB (S : CS) (B : SP) : Prop := S.2.2.1 (11, 0, 0) 0 = B.length ∧ B.length ≤ 5 ∧ RepY (S.1 (12, 0, 0)) (S.1 (13, 0, 0)) (S.1 (14, 0, 0)) B
def trailT (S : CS) (T : SP) : Prop := RepY (S.1 (16, 0, 0)) (S.1 (17, 0, 0)) (S.1 (18, 0, 0)) T
/-- the net's numbers that the search needs -/
def srOK (S : CS) : Prop := cOK S ∧ S.2.2.2 (9, 0, 0) 0 ≤ 8
section X63
variable {D : va_G} {N0 : Nat} {d dc : Nat} {E : RO → Nat} {K : Nat → Option XC} {S : CS} {fr : Int32}
def sbP (D : va_G) (N0 d dc : Nat) (E : RO → Nat) (K : Nat → Option XC) (S : CS) (fr : Int32) (k : Nat) : Prop :=
  ∀ (T : SP) (x a ps : Int32) (B : SP) (S' : CS) (h : XH), T.length + k = 5 → Rep E dc S' K h → cSame S S' → trailT S' T → bestB S' B →
    xV D N0 mN_searchBack (d + 2 * k + 6) 0 (xargs 9 [.ref (E (0, 0, 0)), .int (nI T.length), .int fr, .int x, .int a, .int ps]) [] h (fun o u => o = .returned none ∧ ∃ S2, cSame S S2 ∧ Rep E dc S2 K u ∧ trailT S2 T ∧ bestB S2 (cgo S fr k x a ps T B) ∧ xSz h u)
theorem sbP_0 : sbP D N0 d dc E K S fr 0 := by
  intro T x a ps B S' h hT R hs ht hb
  refine xV.step rfl ?_
  refine xV.step rfl ?_
  refine xV.br rfl (fun h1 => ?_) (fun h1 => ?_)
  · rw [show (5 : Int32) = nI 5 from rfl, xn_lt (by omega) (by omega)] at h1
    omega
  · exact xV.vret rfl rfl ⟨rfl, S', hs, R, ht, hb, rfl, rfl, rfl⟩
theorem cpay_nat (hO : srOK S) {i : Nat} (hi : i < S.2.2.2 (9, 0, 0) 0) (x : Int32) : ∃ p, p < 6 ∧ cpay S i x = nI p := by
  have h1 := hO.1.1 i hi
  unfold cpay
  split
  · exact ⟨_, h1.2.1, rfl⟩
  · exact ⟨_, h1.1, rfl⟩
/-- goOnFrom, the route's next channel laid on the trail -/
theorem c_N_goOnFrom (hO : srOK S) {k : Nat} (ih : sbP D N0 d dc E K S fr k) (T : SP) (i : Nat) (x a ps : Int32) (B : SP) (S' : CS) (h : XH) (hi : i < S.2.2.2 (9, 0, 0) 0) (hT : T.length + k + 1 = 5) (R : Rep E dc S' K h) (hs : cSame S S') (hl : S'.2.2.1 (15, 0, 0) 0 = T.length + 1) (ht : trailT S' ((i, cpay S i x, a.toInt64) :: T)) (hb : bestB S' B) :
    xV D N0 mN_goOnFrom (d + 2 * k + 7) 0 (xargs 6 [.ref (E (0, 0, 0)), .int (nI T.length), .int fr, .int (cpay S i x), .int a, .int ps]) [] h (fun o u => o = .returned none ∧ ∃ S2, cSame S S2 ∧ Rep E dc S2 K u ∧ trailT S2 T ∧ bestB S2 (if cpay S i x = fr then (if sbet a.toInt64 ((i, cpay S i x, a.toInt64) :: T) B = true then (i, cpay S i x, a.toInt64) :: T else B) else cgo S fr k (cpay S i x) (a + cfee S (cpay S i x) a) (ps ||| ((1 : Int32) <<< (cpay S i x &&& 31))) ((i, cpay S i x, a.toInt64) :: T) B) ∧ xSz h u) := by
  refine xV.step rfl ?_
  refine xV.step rfl ?_
  refine xV.br rfl (fun h1 => ?_) (fun h1 => ?_)
  · rw [if_pos h1]
    have e3 := R.trail
    rw [hl] at e3
    have e4 := R.best
    rw [hb.1] at e4
    refine xV.step rfl ?_
    refine xV.get xcl_ok rfl R.net rfl ?_
    refine xV.step rfl ?_
    refine xV.get xcl_ok rfl R.net rfl ?_
    refine xV.cV rfl rfl e3 rfl g_mN_goOnFrom_326 mR_isBetterThan_ok (Nat.le_of_ble_eq_true rfl) (Nat.le_of_ble_eq_true rfl) (c_R_isBetterThan (e := (i, cpay S i x, a.toInt64)) e3 e4 R.trail1 R.best1 R.trail3 R.best3 (by omega) hb.2.1 ht.w hb.2.2.w ht.2.2.2.1 (fun f B' hB => by
      have := hb.2.2
      rw [hB] at this
      exact this.2.2.2.1)) ?_
    refine xV.br rfl (fun h2 => ?_) (fun h2 => ?_)
    · rw [if_neg (fun z => by rw [xB_f h2] at z; cases z)]
      exact xV.vret rfl rfl ⟨rfl, S', hs, R, ht.2.2.2.2, hb, rfl, rfl, rfl⟩
    · rw [if_pos (xB_t h2)]
      refine xV.step rfl ?_
      refine xV.get xcl_ok rfl R.net rfl ?_
      refine xV.step rfl ?_
      refine xV.get xcl_ok rfl R.net rfl ?_
      refine xV.cV rfl rfl R.best rfl g_mN_goOnFrom_330 mR_copy_ok (Nat.le_of_ble_eq_true rfl) (Nat.le_of_ble_eq_true rfl) (c_R_copy R.best e3 R.best1 R.best2 R.best3 R.trail1 R.trail2 R.trail3 (R.ne kV_11 kV_12 (by decide)) (R.ne kV_11 kV_13 (by decide)) (R.ne kV_11 kV_14 (by decide)) (R.ne kV_15 kV_12 (by decide)) (R.ne kV_15 kV_13 (by decide)) (R.ne kV_15 kV_14 (by decide)) (R.ne kV_13 kV_12 (by decide)) (R.ne kV_14 kV_12 (by decide)) (R.ne kV_14 kV_13 (by decide)) (R.ne kV_17 kV_12 (by decide)) (R.ne kV_18 kV_12 (by decide)) (R.ne kV_18 kV_13 (by decide))) ?_
      have R1 := R.put kV_12 (va_cpy (S'.1 (16, 0, 0)) (S'.1 (12, 0, 0)) 0 0 5) (S'.2.1 (12, 0, 0)) (S'.2.2.1 (12, 0, 0))
      have R2 := R1.put kV_13 (va_cpy (S'.1 (17, 0, 0)) (S'.1 (13, 0, 0)) 0 0 5) (S'.2.1 (13, 0, 0)) (S'.2.2.1 (13, 0, 0))
      have R3 := R2.put kV_14 (va_cpy (S'.1 (18, 0, 0)) (S'.1 (14, 0, 0)) 0 0 5) (S'.2.1 (14, 0, 0)) (S'.2.2.1 (14, 0, 0))
      have R4 := R3.put kV_11 (S'.1 (11, 0, 0)) (S'.2.1 (11, 0, 0)) (fun q => if q = 0 then T.length + 1 else S'.2.2.1 (11, 0, 0) q)
      refine xV.vret rfl rfl ⟨rfl, _, (((hs.put ⟨by decide, by decide⟩ _ _ _).put ⟨by decide, by decide⟩ _ _ _).put ⟨by decide, by decide⟩ _ _ _).put ⟨by decide, by decide⟩ _ _ _, R4, ht.2.2.2.2, ⟨rfl, by simp; omega, ?_⟩, rfl, rfl, rfl⟩
      refine RepY.of ht (fun q hq => ?_)
      have hq5 : q < 5 := by simp at hq; omega
      exact ⟨xcpy hq5, xcpy hq5, xcpy hq5⟩
  · rw [if_neg h1]
    obtain ⟨p, hp6, hp⟩ := cpay_nat hO hi x
    have hfe : cfee S (cpay S i x) a = S'.1 (2, 0, 0) p + (a.toInt64 * (S'.1 (3, 0, 0) p).toInt64 / 1000000).toInt32 := by
      unfold cfee
      rw [hp, xn_clamp (by omega), (hs.1 (2, 0, 0) (Or.inl (by decide))).1, (hs.1 (3, 0, 0) (Or.inl (by decide))).1]
    repeat' refine xV.step rfl ?_
    have hcon := c_N_feeOf (D := D) (N0 := N0) (d := d + 2 * k + 6) (v := p) (am := a) R.net R.base R.parts hp6
    rw [← hp, ← hfe] at hcon
    refine xV.cV rfl rfl R.net rfl g_mN_goOnFrom_322 mN_feeOf_ok (Nat.le_of_ble_eq_true rfl) (Nat.le_of_ble_eq_true rfl) hcon ?_
    repeat' refine xV.step rfl ?_
    have ihc := ih ((i, cpay S i x, a.toInt64) :: T) (cpay S i x) (a + cfee S (cpay S i x) a) (ps ||| ((1 : Int32) <<< (cpay S i x &&& 31))) B S' h (by simp; omega) R hs ht hb
    rw [show ((i, cpay S i x, a.toInt64) :: T).length = T.length + 1 from rfl, ← xn_succ] at ihc
    refine xV.callV (n := 5) rfl rfl R.net rfl g_mN_goOnFrom_309 mN_searchBack_ok (Nat.le_of_ble_eq_true rfl) (Nat.le_of_ble_eq_true rfl) ihc (fun w u hz => ?_) (fun a u hz => by cases hz.1)
    obtain ⟨z1, S2, z2, z3, z4, z5, z6⟩ := hz
    cases z1
    refine xV.step rfl ?_
    exact xV.vret rfl rfl ⟨rfl, S2, z2, z3, z4.2.2.2.2, z5, z6⟩
theorem sb_loop (hO : srOK S) {k : Nat} (ih : sbP D N0 d dc E K S fr k) (T : SP) (x a ps : Int32) (hT : T.length + k + 1 = 5) : ∀ (n i : Nat) (B : SP) (S' : CS) (h : XH) (l7 l8 : Option Value), i + n = S.2.2.2 (9, 0, 0) 0 → Rep E dc S' K h → cSame S S' → trailT S' T → bestB S' B →
    xV D N0 mN_searchBack (d + 2 * (k + 1) + 6) 9 [some (.ref (E (0, 0, 0))), some (.int (nI T.length)), some (.int fr), some (.int x), some (.int a), some (.int ps), some (.int (nI i)), l7, l8] [] h (fun o u => o = .returned none ∧ ∃ S2, cSame S S2 ∧ Rep E dc S2 K u ∧ trailT S2 T ∧ bestB S2 (sloop (cone (cgo S fr k) S fr x a ps T) i n B) ∧ xSz h u) := by
  intro n
  induction n with
  | zero =>
    intro i B S' h l7 l8 hi R hs ht hb
    have hC := hO.2
    refine xV.step rfl ?_
    refine xV.step rfl ?_
    refine xV.get xcl_ok rfl R.net rfl ?_
    refine xV.lsz R.lC rfl g_mN_searchBack_85 (Nat.le_of_ble_eq_true rfl) ?_
    rw [hs.2]
    refine xV.br rfl (fun h1 => ?_) (fun h1 => ?_)
    · exact xV.vret rfl rfl ⟨rfl, S', hs, R, ht, hb, rfl, rfl, rfl⟩
    · rw [xn_le (by omega) (by omega)] at h1
      omega
  | succ n ihn =>
    intro i B S' h l7 l8 hi R hs ht hb
    have hC := hO.2
    have hiC : i < S.2.2.2 (9, 0, 0) 0 := by omega
    have hiC' : i < S'.2.2.2 (9, 0, 0) 0 := by rw [hs.2]; exact hiC
    have hch := R.chan hiC'
    obtain ⟨f1, -, f3⟩ := hs.1 (21, i, 0) (Or.inr (by show 18 < 21; decide))
    rw [f1, f3] at hch
    have hb1 := R.chan1 hiC'
    rw [(hs.1 (22, i, 0) (Or.inr (by show 18 < 22; decide))).1] at hb1
    have hb2 := R.chan2 hiC'
    rw [(hs.1 (23, i, 0) (Or.inr (by show 18 < 23; decide))).1] at hb2
    have hlK := R.lK hiC'
    rw [hs.2] at hlK
    have haP : aP h (fun i' => E (26, i, i')) (S.2.2.2 (24, i, 0) 0) (fun k => S.1 (26, i, k) 2) (fun k => S.1 (26, i, k) 5) (fun k => S.1 (26, i, k) 6) := by
      intro k' hk'
      obtain ⟨y1, y2, y3, y4, y5, y6⟩ := R.aP hiC' k' (by rw [hs.2]; exact hk')
      have h26 := (hs.1 (26, i, k') (Or.inr (by show 18 < 26; decide))).1
      simp only [h26] at y6
      exact ⟨y1, y2, y3, y4, y5, y6⟩
    have hw := hO.1.1 i hiC
    have skip : ∀ l7 l8 : Option Value, cokb S x a ps i = false → xV D N0 mN_searchBack (d + 2 * (k + 1) + 6) 100 [some (.ref (E (0, 0, 0))), some (.int (nI T.length)), some (.int fr), some (.int x), some (.int a), some (.int ps), some (.int (nI i)), l7, l8] [] h (fun o u => o = .returned none ∧ ∃ S2, cSame S S2 ∧ Rep E dc S2 K u ∧ trailT S2 T ∧ bestB S2 (sloop (cone (cgo S fr k) S fr x a ps T) i (n + 1) B) ∧ xSz h u) := by
      intro l7 l8 hno
      have e : cone (cgo S fr k) S fr x a ps T i B = B := by unfold cone; rw [if_neg (by rw [hno]; decide)]
      have ihn := ihn (i + 1) B S' h l7 l8 (by omega) R hs ht hb
      rw [← xn_succ] at ihn
      refine xV.step rfl ?_
      refine xV.step rfl ?_
      rw [sloop, e]
      exact ihn
    refine xV.step rfl ?_
    refine xV.step rfl ?_
    refine xV.get xcl_ok rfl R.net rfl ?_
    refine xV.lsz R.lC rfl g_mN_searchBack_85 (Nat.le_of_ble_eq_true rfl) ?_
    rw [hs.2]
    refine xV.br rfl (fun h1 => ?_) (fun h1 => ?_)
    · rw [xn_le (by omega) (by omega)] at h1
      omega
    refine xV.step rfl ?_
    refine xV.get xcl_ok rfl R.net rfl ?_
    refine xV.step rfl ?_
    refine xV.lgt R.lC rfl hiC' rfl g_mN_searchBack_298 (Nat.le_of_ble_eq_true rfl) ?_
    refine xV.cast rfl hch rfl k_mN_searchBack_89 ?_
    refine xV.step rfl ?_
    show xV D N0 mN_searchBack (d + 2 * (k + 1) + 6) 35 [some (.ref (E (0, 0, 0))), some (.int (nI T.length)), some (.int fr), some (.int x), some (.int a), some (.int ps), some (.int (nI i)), some (.ref (E (21, i, 0))), l8] [] h _
    refine xV.step rfl ?_
    refine xV.step rfl ?_
    refine xV.cV rfl rfl hch rfl g_mN_searchBack_102 mC_joins_ok (Nat.le_of_ble_eq_true rfl) (Nat.le_of_ble_eq_true rfl) (c_C_joins hch) ?_
    refine xV.br rfl (fun h2 => ?_) (fun h2 => ?_)
    · exact skip _ _ (by unfold cokb; rw [xB_f h2]; rfl)
    refine xV.step rfl ?_
    refine xV.step rfl ?_
    refine xV.cV rfl rfl hch rfl g_mN_searchBack_313 mC_partnerOf_ok (Nat.le_of_ble_eq_true rfl) (Nat.le_of_ble_eq_true rfl) (c_C_partnerOf hch) ?_
    refine xV.step rfl ?_
    show xV D N0 mN_searchBack (d + 2 * (k + 1) + 6) 52 [some (.ref (E (0, 0, 0))), some (.int (nI T.length)), some (.int fr), some (.int x), some (.int a), some (.int ps), some (.int (nI i)), some (.ref (E (21, i, 0))), some (.int (cpay S i x))] [] h _
    repeat' refine xV.step rfl ?_
    refine xV.br rfl (fun h3 => ?_) (fun h3 => ?_)
    case refine_2 => exact skip _ _ (by unfold cokb; rw [decide_eq_false h3, Bool.false_and, Bool.and_false])
    refine xV.step rfl ?_
    refine xV.step rfl ?_
    refine xV.step rfl ?_
    refine xV.cV rfl rfl hch rfl g_mN_searchBack_109 mC_canCarry_ok (Nat.le_of_ble_eq_true rfl) (Nat.le_of_ble_eq_true rfl) (c_C_canCarry hch hb1 hb2 hw.2.2.1 hlK hw.2.2.2 haP) ?_
    refine xV.br rfl (fun h4 => ?_) (fun h4 => ?_)
    · exact skip _ _ (by unfold cokb ccarC; rw [xB_f h4, Bool.and_false, Bool.and_false])
    have hyes : cokb S x a ps i = true := by
      unfold cokb ccarC
      rw [xB_t h2, decide_eq_true h3, xB_t h4]
      rfl
    refine xV.step rfl ?_
    refine xV.get xcl_ok rfl R.net rfl ?_
    refine xV.step rfl ?_
    refine xV.step rfl ?_
    refine xV.step rfl ?_
    refine xV.step rfl ?_
    refine xV.cV rfl rfl R.trail rfl g_mN_searchBack_316 mR_put_ok (Nat.le_of_ble_eq_true rfl) (Nat.le_of_ble_eq_true rfl) (c_R_put (N := T.length) R.trail R.trail1 R.trail2 R.trail3 (R.ne kV_15 kV_16 (by decide)) (R.ne kV_15 kV_17 (by decide)) (R.ne kV_15 kV_18 (by decide)) (R.ne kV_17 kV_16 (by decide)) (R.ne kV_18 kV_16 (by decide)) (R.ne kV_18 kV_17 (by decide)) (by omega)) ?_
    have R1 := R.put kV_16 (upd (S'.1 (16, 0, 0)) T.length (nI i)) (S'.2.1 (16, 0, 0)) (S'.2.2.1 (16, 0, 0))
    have R2 := R1.put kV_17 (upd (S'.1 (17, 0, 0)) T.length (cpay S i x)) (S'.2.1 (17, 0, 0)) (S'.2.2.1 (17, 0, 0))
    have R3 := R2.put kV_18 (upd (S'.1 (18, 0, 0)) T.length a) (S'.2.1 (18, 0, 0)) (S'.2.2.1 (18, 0, 0))
    have R4 := R3.put kV_15 (S'.1 (15, 0, 0)) (S'.2.1 (15, 0, 0)) (fun q => if q = 0 then T.length + 1 else S'.2.2.1 (15, 0, 0) q)
    have hs4 := (((hs.put (r := (16, 0, 0)) ⟨by decide, by decide⟩ (upd (S'.1 (16, 0, 0)) T.length (nI i)) (S'.2.1 (16, 0, 0)) (S'.2.2.1 (16, 0, 0))).put (r := (17, 0, 0)) ⟨by decide, by decide⟩ (upd (S'.1 (17, 0, 0)) T.length (cpay S i x)) (S'.2.1 (17, 0, 0)) (S'.2.2.1 (17, 0, 0))).put (r := (18, 0, 0)) ⟨by decide, by decide⟩ (upd (S'.1 (18, 0, 0)) T.length a) (S'.2.1 (18, 0, 0)) (S'.2.2.1 (18, 0, 0))).put (r := (15, 0, 0)) ⟨by decide, by decide⟩ (S'.1 (15, 0, 0)) (S'.2.1 (15, 0, 0)) (fun q => if q = 0 then T.length + 1 else S'.2.2.1 (15, 0, 0) q)
    refine xV.step rfl ?_
    refine xV.step rfl ?_
    refine xV.step rfl ?_
    refine xV.step rfl ?_
    refine xV.step rfl ?_
    refine xV.step rfl ?_
    refine xV.callV (n := 5) rfl rfl R4.net rfl g_mN_searchBack_319 mN_goOnFrom_ok (Nat.le_of_ble_eq_true rfl) (Nat.le_of_ble_eq_true rfl) (c_N_goOnFrom hO ih T i x a ps B _ _ hiC hT R4 hs4 rfl ⟨xupd_self _ _ _, by show i < 8; omega, xupd_self _ _ _, by show (upd _ _ _ _).toInt64 = _; rw [xupd_self], RepY.of ht (fun q hq => ⟨xupd_ne (by omega), xupd_ne (by omega), xupd_ne (by omega)⟩)⟩ hb) (fun w u hz => ?_) (fun a u hz => by cases hz.1)
    obtain ⟨z1, S2, z2, z3, z4, z5, z6⟩ := hz
    cases z1
    have e : cone (cgo S fr k) S fr x a ps T i B = (if cpay S i x = fr then (if sbet a.toInt64 ((i, cpay S i x, a.toInt64) :: T) B = true then (i, cpay S i x, a.toInt64) :: T else B) else cgo S fr k (cpay S i x) (a + cfee S (cpay S i x) a) (ps ||| ((1 : Int32) <<< (cpay S i x &&& 31))) ((i, cpay S i x, a.toInt64) :: T) B) := by unfold cone; rw [if_pos hyes]
    rw [← e] at z5
    have ihn := ihn (i + 1) _ S2 u (some (.ref (E (21, i, 0)))) (some (.int (cpay S i x))) (by omega) z3 z2 z4 z5
    rw [← xn_succ] at ihn
    refine xV.step rfl ?_
    refine xV.step rfl ?_
    rw [sloop]
    refine xV.mono ?_ ihn
    rintro o u2 ⟨q1, S3, q2, q3, q4, q5, q6⟩
    exact ⟨q1, S3, q2, q3, q4, q5, xSz.trans z6 q6⟩
theorem sbP_all (hO : srOK S) : ∀ k, sbP D N0 d dc E K S fr k
  | 0 => sbP_0
  | k + 1 => by
    intro T x a ps B S' h hT R hs ht hb
    refine xV.step rfl ?_
    refine xV.step rfl ?_
    refine xV.br rfl (fun h1 => ?_) (fun h1 => ?_)
    · refine xV.step rfl ?_
      refine xV.step rfl ?_
      exact sb_loop hO (sbP_all hO k) T x a ps (by omega) _ 0 B S' h none none (by omega) R hs ht hb
    · rw [show (5 : Int32) = nI 5 from rfl, xn_lt (by omega) (by omega)] at h1
      omega
/-- the routes found -/
def cres (S : CS) (fr to am : Int32) : SP := cgo S fr 5 to am ((1 : Int32) <<< (to &&& 31)) [] []
theorem c_N_findRoute {h : XH} (hO : srOK S) (R : Rep E dc S K h) {to am : Int32} : xV D N0 mN_findRoute (d + 17) 0 (xargs 4 [.ref (E (0, 0, 0)), .int fr, .int to, .int am]) [] h (fun o u => o = .returned none ∧ ∃ S2, cSame S S2 ∧ Rep E dc S2 K u ∧ bestB S2 (cres S fr to am) ∧ xSz h u) := by
  refine xV.step rfl ?_
  refine xV.get xcl_ok rfl R.net rfl ?_
  refine xV.step rfl ?_
  refine xV.put xcl_ok rfl R.best rfl rfl rfl (Nat.le_of_ble_eq_true rfl) ?_
  have R1 := R.put kV_11 (S.1 (11, 0, 0)) (S.2.1 (11, 0, 0)) (fun q => if q = 0 then 0 else S.2.2.1 (11, 0, 0) q)
  have hs : cSame S S := ⟨fun q _ => ⟨rfl, rfl, rfl⟩, rfl⟩
  repeat' refine xV.step rfl ?_
  refine xV.callV (n := 5) rfl rfl R1.net rfl g_mN_findRoute_309 mN_searchBack_ok (Nat.le_of_ble_eq_true rfl) (Nat.le_of_ble_eq_true rfl) (sbP_all hO 5 [] to am ((1 : Int32) <<< (to &&& 31)) [] _ _ rfl R1 (hs.put ⟨by decide, by decide⟩ _ _ _) True.intro ⟨rfl, by simp, True.intro⟩) (fun w u hz => ?_) (fun a u hz => by cases hz.1)
  obtain ⟨z1, S2, z2, z3, z4, z5, z6⟩ := hz
  cases z1
  exact xV.vret rfl rfl ⟨rfl, S2, z2, z3, z5, z6⟩
end X63
