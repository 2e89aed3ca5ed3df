-- the class's count of a grid's shapes
def bcF (a0 : Int32) : Int32 :=
  let y1 := (a0.toUInt32 >>> ((1 : Int32).toUInt32 &&& Int32.toUInt32 31)).toInt32
  let y2 := (a0 - (y1 &&& (1431655765 : Int32))) &&& (858993459 : Int32)
  let y3 := ((a0 - (y1 &&& (1431655765 : Int32))).toUInt32 >>> ((2 : Int32).toUInt32 &&& Int32.toUInt32 31)).toInt32
  let y4 := ((y2 + (y3 &&& (858993459 : Int32))).toUInt32 >>> ((4 : Int32).toUInt32 &&& Int32.toUInt32 31)).toInt32
  let y5 := ((y2 + (y3 &&& (858993459 : Int32))) + y4) &&& (252645135 : Int32)
  let y6 := (y5.toUInt32 >>> ((8 : Int32).toUInt32 &&& Int32.toUInt32 31)).toInt32
  let y7 := ((y5 + y6).toUInt32 >>> ((16 : Int32).toUInt32 &&& Int32.toUInt32 31)).toInt32
  ((y5 + y6) + y7) &&& (63 : Int32)
set_option maxRecDepth 100000 in
theorem bcF_all : ∀ a : Nat, a < 128 → ∀ b : Nat, b < 64 → bcF (Int32.ofNat (64 * a + b)) = Int32.ofNat ((64 * a + b) % 2 + cbN (64 * a + b) 12) := by decide +kernel
theorem ig_bitCount {n : Nat} {Q : Int32 → Prop} (hn : n < 8192) (he : n % 2 = 0) (h : Q (iI ((cbN n 12 : Nat) : Int))) : f_Ig_bitCount (iI n) Q := by
  have e : bcF (iI (n : Int)) = iI ((cbN n 12 : Nat) : Int) := by
    have := bcF_all (n / 64) (by omega) (n % 64) (by omega)
    rw [show 64 * (n / 64) + n % 64 = n by omega, he, Nat.zero_add] at this
    exact this
  unfold f_Ig_bitCount
  refine k_n (k_n (k_n (k_n (k_n (k_n (k_n ?_))))))
  show Q (bcF (iI (n : Int)))
  rw [e]
  exact h
theorem okG_cb {x : Int32} (h : okG x) : ∃ n : Nat, n < 8192 ∧ n % 2 = 0 ∧ x = iI n ∧ 0 < cbN n 12 ∧ cbN n 12 ≤ 4 := by
  obtain ⟨n, h1, h2, h3, h4, e⟩ := h
  have := pop_cb h1
  exact ⟨n, h1, h2, e, by omega, by omega⟩
theorem okG_of {n : Nat} (h1 : n < 8192) (h2 : n % 2 = 0) (h3 : 0 < cbN n 12) (h4 : cbN n 12 ≤ 4) : okG (iI n) := by
  have := pop_cb h1
  exact ⟨n, h1, h2, by omega, by omega, rfl⟩
/-- the masks that a moment has -/
theorem grid_masks {mo : Ob} {A : Nat → Int32} {np : Nat} (hnp : np ≤ 5) (h : RGr mo A) : ∃ n : Nat → Nat, okM np n A ∧ ∀ i, i < 5 → n i < 8192 ∧ n i % 2 = 0 ∧ A (30 + i) = iI (n i) ∧ gA mo 10 i = iI (n i) ∧ 0 < cbN (n i) 12 ∧ cbN (n i) 12 ≤ 4 := by
  have hx : ∀ i : Nat, ∃ k : Nat, i < 5 → k < 8192 ∧ k % 2 = 0 ∧ A (30 + i) = iI k ∧ gA mo 10 i = iI k ∧ 0 < cbN k 12 ∧ cbN k 12 ≤ 4 := by
    intro i
    by_cases hi : i < 5
    · obtain ⟨k, k1, k2, k3, k4, k5⟩ := okG_cb (h i hi).1
      exact ⟨k, fun _ => ⟨k1, k2, k3, (h i hi).2.trans k3, k4, k5⟩⟩
    · exact ⟨0, fun q => absurd q hi⟩
  refine ⟨fun i => Classical.choose (hx i), fun i hi => ?_, fun i hi => Classical.choose_spec (hx i) hi⟩
  obtain ⟨k1, k2, k3, k4, k5, k6⟩ := Classical.choose_spec (hx i) (by omega)
  exact ⟨k1, k3, k5, k6⟩
theorem pv_countShapes {np : Nat} {n : Nat → Nat} {o0 mo : Ob} {r1 : Nat → Nat} {Q : Int32 → Prop} (hnp : np ≤ 5) (h0 : gI o0 0 = iI np) (hn : ∀ i, i < np → n i < 8192 ∧ n i % 2 = 0 ∧ gA mo 10 i = iI (n i)) (hQ : Q (iI ((TT (szN n) np 0 : Nat) : Int))) : f_PV_countShapes o0 r1 mo Q := by
  unfold f_PV_countShapes
  have lp : ∀ (f i x : Nat), f + i = np → x * TT (szN n) np i = TT (szN n) np 0 → f_PV_countShapes_4 o0 r1 mo Q (f + 1) (iI x) (iI i) := by
    intro f
    induction f with
    | zero =>
      intro i x hi hx
      have : i = np := by omega
      subst this
      rw [TT_end, Nat.mul_one] at hx
      unfold f_PV_countShapes_4
      rw [h0, hx]
      exact k_t (Int32.le_refl _) hQ
    | succ f ih =>
      intro i x hi hx
      obtain ⟨a1, a2, a3⟩ := hn i (by omega)
      have ei : iI (i : Int) + (1 : Int32) = iI ((i + 1 : Nat) : Int) := ix_add i 1
      unfold f_PV_countShapes_4
      rw [h0, ei, cl_nat (by omega), a3]
      refine b_le (fun q => by omega) (fun _ => ⟨v_nat (by omega) (by decide), ig_bitCount a1 a2 ?_⟩)
      have em : iI (x : Int) * iI ((cbN (n i) 12 : Nat) : Int) = iI ((x * cbN (n i) 12 : Nat) : Int) := by rw [iI_mul]; congr 1
      rw [em]
      refine ih (i + 1) _ (by omega) ?_
      rw [← hx, TT_st _ (show i < np by omega), Nat.mul_assoc]
  exact ⟨np + 1, lp np 0 1 (by omega) (by omega)⟩
theorem mdS.V {m u : Ob} (h : mdS m u) : mdV m u := ⟨fun k hk => h.1 k (by omega), h.2.2.1 2 (by decide) (by decide), h.2.2.1 6 (by decide) (by decide), by rw [h.2.2.2]⟩
/-- which numbers are sets of widths -/
theorem set_of {x : Int32} (h : x &&& ((8190 : Int32) ^^^ (-1 : Int32)) = 0) : ∃ n : Nat, n < 8192 ∧ n % 2 = 0 ∧ x = iI n := by
  have e : x &&& (8191 : Int32) = x := by
    apply Int32.toBitVec_inj.mp
    rw [Int32.toBitVec_and]
    have hb : x.toBitVec &&& ((8190 : Int32) ^^^ (-1 : Int32)).toBitVec = 0#32 := by rw [← Int32.toBitVec_and, h]; rfl
    ext i hi
    have hi' := congrArg (fun v : BitVec 32 => v.getLsbD i) hb
    simp only [BitVec.getLsbD_and] at hi'
    rw [BitVec.getElem_and]
    have key : ∀ i : Nat, i < 32 → ((8191 : Int32).toBitVec.getLsbD i = true ∨ ((8190 : Int32) ^^^ (-1 : Int32)).toBitVec.getLsbD i = true) := by decide
    rcases key i hi with hk | hk
    · rw [BitVec.getLsbD_eq_getElem hi] at hk
      rw [hk, Bool.and_true]
    · rw [hk, Bool.and_true, BitVec.getLsbD_eq_getElem hi] at hi'
      have hz : (0#32).getLsbD i = false := by simp
      rw [hz] at hi'
      rw [hi', Bool.false_and]
  obtain ⟨n, hn, e2⟩ := pk_andE x (m := (8191 : Int32)) 13 rfl
  rw [e] at e2
  refine ⟨n, hn, ?_, e2⟩
  rw [e2] at h
  have key : ∀ a : Nat, a < 128 → ∀ b : Nat, b < 64 → (nI (64 * a + b) &&& ((8190 : Int32) ^^^ (-1 : Int32)) = 0) → (64 * a + b) % 2 = 0 := by decide +kernel
  have := key (n / 64) (by omega) (n % 64) (by omega)
  rw [show 64 * (n / 64) + n % 64 = n by omega] at this
  exact this h
theorem set_is : ∀ n : Nat, n < 8192 → n % 2 = 0 → iI (n : Int) &&& ((8190 : Int32) ^^^ (-1 : Int32)) = 0 := by
  have key : ∀ a : Nat, a < 128 → ∀ b : Nat, b < 64 → (64 * a + b) % 2 = 0 → (nI (64 * a + b) &&& ((8190 : Int32) ^^^ (-1 : Int32)) = 0) := by decide +kernel
  intro n hn he
  have := key (n / 64) (by omega) (n % 64) (by omega)
  rw [show 64 * (n / 64) + n % 64 = n by omega] at this
  exact this he
theorem odd_is (n : Nat) (hn : n < 8192) : iI (n : Int) &&& (1 : Int32) = iI ((n % 2 : Nat) : Int) := by
  have := pk_andN (n := n) (by omega) (m := (1 : Int32)) 1 rfl
  exact this
/-- the model's grid -/
theorem md_grid {np : Nat} {a : Int32} {x : Int} {m : Ob} {Q : Int32 → Ob → Prop} (hnp : np ≤ 5) (hm : gI m 0 = iI np) (hx : -2147483648 ≤ x ∧ x < 2147483648)
    (no : ¬ ((∃ j : Nat, j < np ∧ a = iI j) ∧ ∃ n : Nat, x = n ∧ n < 8192 ∧ n % 2 = 0 ∧ 0 < n ∧ cbN n 12 ≤ 4) → Q (-1) m)
    (yes : ∀ j n : Nat, j < np → a = iI j → x = n → n < 8192 → n % 2 = 0 → 0 < n → cbN n 12 ≤ 4 → f_Md_findShapes (sA m 1 (upd (gA m 1) (30 + j) (iI n))) (fun u => Q (gI u 40) u)) : f_Md_grid a (iI x) m Q := by
  unfold f_Md_grid
  refine md_isPiece hm hnp (fun j hj ha => k_f (by decide) ?_) (fun q => k_t rfl (no (fun h => ?_)))
  rotate_left
  · obtain ⟨⟨j, hj, hja⟩, -⟩ := h
    exact q j hj hja
  refine md_in (lo := 1) (hi := 8191) (fun a1 a2 => k_f (by decide) ?_) (fun q => k_t rfl (no (fun h => ?_))) hx (by omega) (by omega)
  rotate_left
  · obtain ⟨-, n, hn, h1, h2, h3, -⟩ := h
    omega
  obtain ⟨n, rfl⟩ : ∃ n : Nat, x = n := ⟨x.toNat, by omega⟩
  rw [odd_is n (by omega)]
  refine b_eq (b := 1) (fun q => no (fun h => ?_)) (fun q => ?_)
  · obtain ⟨-, n', hn, h1, h2, h3, -⟩ := h
    omega
  have e30 : (30 : Int32) + a = iI ((30 + j : Nat) : Int) := ixn (c := 30) ha _ rfl
  have lp : ∀ (f c : Nat), f + c = 13 → 1 ≤ c → f_Md_grid_33 Q (f + 1) a (iI n) (iI ((cbN n (c - 1) : Nat) : Int)) (iI c) m := by
    intro f
    induction f with
    | zero =>
      intro c hc h1
      have : c = 13 := by omega
      subst this
      have hb : cbN n 12 ≤ 12 := by
        have : ∀ k, cbN n k ≤ k := by
          intro k
          induction k with
          | zero => exact Nat.le_refl _
          | succ k ih => rcases bN_01 n (k + 1) with h | h <;> (show cbN n k + bN n (k + 1) ≤ k + 1; omega)
        exact this 12
      unfold f_Md_grid_33
      rw [e30, cl_nat (by omega)]
      refine k_t (by decide) (b_le (a := ((cbN n (13 - 1) : Nat) : Int)) (b := 4) (fun g => ⟨v_nat (by omega) (by decide), ?_⟩) (fun g => no (fun h => ?_)) (by show -2147483648 ≤ ((cbN n 12 : Nat) : Int) ∧ ((cbN n 12 : Nat) : Int) < 2147483648; omega) (by omega))
      · exact yes j n hj ha rfl (by omega) (by omega) (by omega) (by have h4 : ((cbN n 12 : Nat) : Int) ≤ 4 := g; omega)
      · obtain ⟨-, n', hn, h1, h2, h3, h4⟩ := h
        have : n' = n := by omega
        subst this
        exact g (by show ((cbN n' 12 : Nat) : Int) ≤ 4; omega)
    | succ f ih =>
      intro c hc h1
      unfold f_Md_grid_33
      refine b_le (a := 13) (fun q => by omega) (fun _ => ?_)
      have ec : iI (c : Int) + (1 : Int32) = iI ((c + 1 : Nat) : Int) := ix_add c 1
      rw [bitAt (n := n) (c := c) (by omega) (by omega), ec]
      have es : iI ((cbN n (c - 1) : Nat) : Int) + iI ((bN n c : Nat) : Int) = iI ((cbN n (c + 1 - 1) : Nat) : Int) := by
        rw [iI_add, show c + 1 - 1 = c by omega, cbN_pred n h1]; congr 1
      rw [es]
      exact ih (c + 1) (by omega) (by omega)
  exact ⟨13, lp 12 1 (by omega) (by omega)⟩
theorem op_grid {np : Nat} {a b : Int32} {o0 mo m : Ob} {r1 : Nat → Nat} {K : Ob → Ob → Prop} (hnp : np ≤ 5) (hnp1 : 1 ≤ np) (h0 : gI o0 0 = iI np) (hm : gI m 0 = iI np) (hG : RGr mo (gA m 1)) (hK0 : K mo m)
    (hK : ∀ (j : Nat) (v : Int32) u, j < np → okG v → mdS (sA m 1 (upd (gA m 1) (30 + j) v)) u → K (sA mo 10 (upd (gA mo 10) j v)) u) :
    f_PV_grid a b o0 r1 mo (fun z u => f_Md_grid a b m (fun z2 v => (z = z2 → K u v) ∧ (¬ z = z2 → False))) := by
  obtain ⟨x, x1, x2, rfl⟩ := iI_ex b
  have no : ¬ ((∃ j : Nat, j < np ∧ a = iI j) ∧ ∃ n : Nat, x = n ∧ n < 8192 ∧ n % 2 = 0 ∧ 0 < n ∧ cbN n 12 ≤ 4) → f_Md_grid a (iI x) m (fun z2 v => ((-1 : Int32) = z2 → K mo v) ∧ (¬ (-1 : Int32) = z2 → False)) := fun q =>
    md_grid hnp hm ⟨x1, x2⟩ (fun _ => k_q rfl hK0) (fun j n j1 j2 j3 j4 j5 j6 j7 => absurd ⟨⟨j, j1, j2⟩, n, j3, j4, j5, j6, j7⟩ q)
  unfold f_PV_grid
  refine pv_isPiece h0 hnp (fun j hj ha => k_f (by decide) ?_) (fun q => k_t rfl (no (fun h => ?_)))
  rotate_left
  · obtain ⟨⟨j, hj, hja⟩, -⟩ := h
    exact q j hj hja
  refine b_eq (b := 0) (fun q => no (fun h => ?_)) (fun q0 => ?_)
  · obtain ⟨-, n', hn, h1, h2, h3, -⟩ := h
    omega
  refine k_c (fun hs => ?_) (fun hs => no (fun h => ?_))
  rotate_left
  · obtain ⟨-, n', hn, h1, h2, h3, -⟩ := h
    rw [hn] at hs
    exact hs (set_is n' h1 h2)
  obtain ⟨n, n1, n2, en⟩ := set_of hs
  have hxn : x = n := (iI_eq ⟨x1, x2⟩ (by omega)).mp en
  subst hxn
  have hn0 : 0 < cbN n 12 := by
    rcases Nat.eq_zero_or_pos (cbN n 12) with h | h
    · exfalso
      have key : ∀ a : Nat, a < 128 → ∀ b : Nat, b < 64 → cbN (64 * a + b) 12 = 0 → (64 * a + b) % 2 = 0 → 64 * a + b = 0 := by decide +kernel
      have := key (n / 64) (by omega) (n % 64) (by omega)
      rw [show 64 * (n / 64) + n % 64 = n by omega] at this
      have := this h n2
      omega
    · exact h
  have hc12 : cbN n 12 ≤ 12 := by
    have : ∀ k, cbN n k ≤ k := by
      intro k
      induction k with
      | zero => exact Nat.le_refl _
      | succ k ih => rcases bN_01 n (k + 1) with h | h <;> (show cbN n k + bN n (k + 1) ≤ k + 1; omega)
    exact this 12
  refine ig_bitCount n1 n2 (b_le (b := 4) (fun g => ?_) (fun g => no (fun h => ?_)))
  rotate_left
  · obtain ⟨-, n', hn, h1, h2, h3, h4⟩ := h
    have : n' = n := by omega
    subst this
    omega
  rw [ha, cl_nat (by omega)]
  refine ⟨v_nat (by omega) (by decide), ?_⟩
  have hok : okG (iI (n : Int)) := okG_of n1 n2 hn0 (by omega)
  have hG' : RGr (sA mo 10 (upd (gA mo 10) j (iI n))) (upd (gA m 1) (30 + j) (iI n)) := by
    intro i hi
    show okG (upd (gA m 1) (30 + j) (iI n) (30 + i)) ∧ upd (gA mo 10) j (iI n) i = upd (gA m 1) (30 + j) (iI n) (30 + i)
    by_cases hij : i = j
    · subst hij; rw [upd_same, upd_same]; exact ⟨hok, rfl⟩
    · rw [upd_ne _ _ _ _ (by omega), upd_ne _ _ _ _ hij]; exact hG i hi
  obtain ⟨ns, hM, hns⟩ := grid_masks (np := np) hnp hG'
  refine pv_countShapes hnp h0 (fun i hi => ⟨(hns i (by omega)).1, (hns i (by omega)).2.1, (hns i (by omega)).2.2.2.1⟩) ?_
  rw [← ha]
  refine md_grid hnp hm ⟨x1, x2⟩ (fun q => absurd ⟨⟨j, hj, ha⟩, n, rfl, n1, n2, by omega, by omega⟩ q) (fun j' n' j1 j2 j3 j4 j5 j6 j7 => ?_)
  have hjj : j' = j := by
    have := (iI_eq (a := (j' : Int)) (b := (j : Int)) (by omega) (by omega)).mp (j2.symm.trans ha)
    omega
  have hnn : n' = n := by omega
  subst hjj hnn
  obtain ⟨u, a1, a2, a3, run⟩ := md_findShapes (m := sA m 1 (upd (gA m 1) (30 + j') (iI n'))) hnp hnp1 hm hM
  exact run _ (k_q a2.symm (hK j' _ u hj hok a1))
theorem op_about {np t tm : Nat} {a : Int32} {o0 mo fo ta m : Ob} {r1 : Nat → Nat} {K : Ob → Prop} (hnp : np ≤ 5) (hnp1 : 1 ≤ np) (h0 : gI o0 0 = iI np) (hm : gI m 0 = iI np) (hC : RCl mo (gA m 1) t) (hS : RSa mo (gA m 1) t) (hT : RTi mo (gA m 1) tm) (hG : RGr mo (gA m 1)) (hF : RFo fo (gA m 1)) (hTa : RTa ta m) (hK : ∀ u, mdS m u → K u) :
    f_PV_about a o0 r1 mo fo ta (fun z => f_Md_about a m (fun z2 v => (z = z2 → K v) ∧ (¬ z = z2 → False))) := by
  have hK0 := hK m (mdS.rf m)
  obtain ⟨s, s1, s2, -⟩ := hS
  obtain ⟨t1, t2, -, lk, t4, t5, -⟩ := hT
  obtain ⟨ns, hM, hns⟩ := grid_masks (np := np) hnp hG
  obtain ⟨nt, -, ta1, ta2, -⟩ := hTa
  unfold f_PV_about f_Md_about
  refine k_c (fun c0 => ?_) (fun c0 => k_c (fun c1 => ?_) (fun c1 => k_c (fun c2 => ?_) (fun c2 => k_c (fun c3 => ?_) (fun c3 => k_c (fun c4 => ?_) (fun c4 => k_c (fun c5 => ?_) (fun c5 => k_c (fun c6 => ?_) (fun c6 => k_c (fun c7 => ?_) (fun c7 => k_c (fun c8 => ?_) (fun c8 => k_c (fun c9 => ?_) (fun c9 => ?_))))))))))
  · exact k_t c0 (k_q (h0.trans hm.symm) hK0)
  · exact k_f c0 (k_t c1 (k_q (hC.1.trans hC.2.1.symm) hK0))
  · exact k_f c0 (k_f c1 (k_t c2 (k_q (t1.trans t2.symm) hK0)))
  · exact k_f c0 (k_f c1 (k_f c2 (k_t c3 (k_q (t4.trans t5.symm) hK0))))
  · exact k_f c0 (k_f c1 (k_f c2 (k_f c3 (k_t c4 (k_q (s1.trans s2.symm) hK0)))))
  · refine pv_countShapes hnp h0 (fun i hi => ⟨(hns i (by omega)).1, (hns i (by omega)).2.1, (hns i (by omega)).2.2.2.1⟩) ?_
    obtain ⟨u, a1, a2, a3, run⟩ := md_findShapes (m := m) hnp hnp1 hm hM
    exact k_f c0 (k_f c1 (k_f c2 (k_f c3 (k_f c4 (k_t c5 (run _ (k_q a2.symm (hK u a1))))))))
  · exact k_f c0 (k_f c1 (k_f c2 (k_f c3 (k_f c4 (k_f c5 (k_t c6 (k_q (ta1.trans ta2.symm) hK0)))))))
  · exact k_f c0 (k_f c1 (k_f c2 (k_f c3 (k_f c4 (k_f c5 (k_f c6 (k_t c7 (k_q hF.1.2.2.1 hK0))))))))
  · exact k_f c0 (k_f c1 (k_f c2 (k_f c3 (k_f c4 (k_f c5 (k_f c6 (k_f c7 (k_t c8 (k_q hF.1.2.2.2.1 hK0)))))))))
  · exact k_f c0 (k_f c1 (k_f c2 (k_f c3 (k_f c4 (k_f c5 (k_f c6 (k_f c7 (k_f c8 (k_t c9 (k_q hF.1.2.2.2.2.1 hK0))))))))))
  · exact k_f c0 (k_f c1 (k_f c2 (k_f c3 (k_f c4 (k_f c5 (k_f c6 (k_f c7 (k_f c8 (k_f c9 (k_q rfl hK0))))))))))
