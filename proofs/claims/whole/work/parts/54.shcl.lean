-- the class's shapes
def shp (n : Nat → Nat) (np k i : Nat) : Int32 := iI ((chN (n i) (dg (szN n) np i k) : Nat) : Int)
def bxs (n : Nat → Nat) (np k tn : Nat) : Int := bx (shp n np k) np tn
def okS (np : Nat) (n : Nat → Nat) : Prop := ∀ i, i < np → n i < 8192 ∧ n i % 2 = 0 ∧ 0 < cbN (n i) 12 ∧ cbN (n i) 12 ≤ 4
def SHL (np : Nat) (n r : Nat → Nat) (o : Ob) : Prop := gI o 0 = iI np ∧ okS np n ∧ (∀ i, i < np → gA o 1 i = iI (n i)) ∧ (∀ i, i < np → gA o 3 i = iI ((szN n i : Nat) : Int) ∧ gA o 4 i = iI ((TT (szN n) np (i + 1) : Nat) : Int) ∧ ∀ g, g < szN n i → gA o 2 (4 * i + g) = iI ((chN (n i) g : Nat) : Int)) ∧ gI o 8 = iI ((TT (szN n) np 0 : Nat) : Int) ∧ 5 * TT (szN n) np 0 ≤ r 109 ∧ r 109 ≤ 5120 ∧ r 111 ≤ 8192
def SBX (np : Nat) (n : Nat → Nat) (o : Ob) : Prop := ∃ b : Nat, b < 32 ∧ gI o 10 = iI b ∧ ∀ tn, tn < 5 → bN b tn = 1 → ∀ k, k < TT (szN n) np 0 → gA o 9 (tn * TT (szN n) np 0 + k) = iI (bxs n np k tn)
theorem okS_pos {np : Nat} {n : Nat → Nat} (h : okS np n) : ∀ i, i < np → 0 < szN n i := fun i hi => (h i hi).2.2.1
theorem okS_le {np : Nat} {n : Nat → Nat} (h : okS np n) (hnp : np ≤ 5) {i : Nat} (hi : i ≤ np) : 0 < TT (szN n) np i ∧ TT (szN n) np i ≤ 1024 := by
  refine ⟨TT_pos (okS_pos h) (np - i) i (by omega), ?_⟩
  have h1 := TT_le (s := szN n) (np := np) (fun i hi => (h i hi).2.2.2) (np - i) i (by omega)
  have h2 : 4 ^ (np - i) ≤ 4 ^ 5 := Nat.pow_le_pow_right (by decide) (by omega)
  omega
theorem shp_ok {np : Nat} {n : Nat → Nat} (h : okS np n) (k : Nat) : ∀ i, i < np → okW (shp n np k i) := fun i hi => by
  have := chN_bd (n := n i) (g := dg (szN n) np i k) (dg_lt k (okS_pos h i hi))
  exact ⟨_, this.1, this.2, rfl⟩
theorem iN_div {a b : Nat} (hb : 0 < b) (ha : a < 2147483648) (hb2 : b < 2147483648) : iI (a : Int) / iI (b : Int) = iI ((a / b : Nat) : Int) := iI_div (by omega) (by omega)
theorem sh_widthIn {np k p : Nat} {n r : Nat → Nat} {o : Ob} {Q : Int32 → Prop} (hnp : np ≤ 5) (h : SHL np n r o) (hk : k < TT (szN n) np 0) (hp : p < np) (hQ : Q (shp n np k p)) : f_Sh_widthIn (iI k) (iI p) r o Q := by
  obtain ⟨h0, hok, h1, h3, h8, -⟩ := h
  obtain ⟨e3, e4, e2⟩ := h3 p hp
  obtain ⟨t1, t2⟩ := okS_le hok hnp (i := p + 1) (by omega)
  have tk := (okS_le hok hnp (i := 0) (by omega)).2
  have s1 := okS_pos hok p hp
  have s2 := (hok p hp).2.2.2
  have hd := dg_lt (s := szN n) (np := np) (j := p) k s1
  have vp5 : vp_in (iI (p : Int)) 5 := v_nat (by omega) (by decide)
  unfold f_Sh_widthIn
  rw [cl_nat (by omega), e3, e4, iN_div t1 (by omega) (by omega), iN_div s1 (by have := Nat.div_le_self k (TT (szN n) np (p + 1)); omega) (by have : szN n p ≤ 4 := s2; omega)]
  refine b_lt (b := 0) (fun q => by omega) (fun _ => ⟨vp5, b_lt (b := 1) (fun q => by omega) (fun _ => ⟨vp5, b_le (a := 1) (fun _ => ⟨vp5, fun q => ?_, vp5, fun q => ?_, ?_⟩) (fun q => by omega) (by omega) (by have : szN n p ≤ 4 := s2; omega)⟩)⟩)
  · have := (iI_eq (b := 0) (by omega) (by omega)).mp q
    omega
  · have := (iI_eq (b := 0) (by have : szN n p ≤ 4 := s2; omega) (by omega)).mp q
    omega
  · have ey : iI ((k / TT (szN n) np (p + 1) : Nat) : Int) - iI ((k / TT (szN n) np (p + 1) / szN n p : Nat) : Int) * iI ((szN n p : Nat) : Int) = iI ((dg (szN n) np p k : Nat) : Int) := by
      rw [iI_mul, iI_sub]
      congr 1
      unfold dg
      have := Nat.div_add_mod (k / TT (szN n) np (p + 1)) (szN n p)
      rw [Nat.mul_comm] at this
      have h2 : ((k / TT (szN n) np (p + 1) / szN n p * szN n p : Nat) : Int) = ((k / TT (szN n) np (p + 1) / szN n p : Nat) : Int) * ((szN n p : Nat) : Int) := by push_cast; rfl
      omega
    have e4p : iI (p : Int) * (4 : Int32) + iI ((dg (szN n) np p k : Nat) : Int) = iI ((4 * p + dg (szN n) np p k : Nat) : Int) := by
      rw [show (4 : Int32) = iI 4 from rfl, iI_mul, iI_add]; congr 1; omega
    have hd4 : dg (szN n) np p k < 4 := Nat.lt_of_lt_of_le hd s2
    refine k_e ey ?_
    rw [e4p, cl_nat (by omega)]
    refine ⟨v_nat (by omega) (by decide), k_e (e2 _ hd) hQ⟩
-- a set of widths is spread out
theorem and_bit {n c : Nat} (hn : n < 8192) (hc : c < 13) : (iI (n : Int) &&& ((1 : Int32) <<< (iI (c : Int) &&& 31))) = 0 ↔ bN n c = 0 := by
  have e1 : (1 : Int32) <<< (iI (c : Int) &&& 31) = nI (2 ^ c) := by
    have := pk_shlN (n := 1) (iI (c : Int) &&& 31) c (sh_k c (by omega)) (by rw [Nat.one_mul]; exact Nat.pow_lt_pow_right (by decide) (by omega))
    rw [Nat.one_mul] at this
    exact this
  have e2 : nI n &&& nI (2 ^ c) = nI (n &&& 2 ^ c) := by
    apply Int32.toBitVec_inj.mp
    rw [Int32.toBitVec_and]
    show BitVec.ofNat 32 n &&& BitVec.ofNat 32 (2 ^ c) = BitVec.ofNat 32 (n &&& 2 ^ c)
    exact (BitVec.ofNat_and).symm
  have hb : n &&& 2 ^ c = 2 ^ c * bN n c := by
    have ht : n.testBit c = decide (n / 2 ^ c % 2 = 1) := Nat.testBit_eq_decide_div_mod_eq
    apply Nat.eq_of_testBit_eq
    intro j
    rw [Nat.testBit_and, Nat.testBit_two_pow]
    unfold bN
    rcases Nat.mod_two_eq_zero_or_one (n / 2 ^ c) with h | h
    · rw [h, Nat.mul_zero, Nat.zero_testBit]
      by_cases hj : c = j
      · subst hj; rw [ht, h]; rfl
      · rw [decide_eq_false hj, Bool.and_false]
    · rw [h, Nat.mul_one, Nat.testBit_two_pow]
      by_cases hj : c = j
      · subst hj; rw [ht, h]; simp
      · rw [decide_eq_false hj, Bool.and_false]
  have hle : n &&& 2 ^ c < 2147483648 := Nat.lt_of_le_of_lt Nat.and_le_left (by omega)
  rw [e1, show iI (n : Int) = nI n from rfl, e2]
  have hp : 0 < 2 ^ c := Nat.pow_pos (by decide)
  constructor
  · intro h
    have : ((n &&& 2 ^ c : Nat) : Int) = 0 := (iI_eq (a := ((n &&& 2 ^ c : Nat) : Int)) (b := 0) (by omega) (by omega)).mp h
    rcases bN_01 n c with h0 | h0
    · exact h0
    · rw [hb, h0, Nat.mul_one] at this
      omega
  · intro h
    rw [hb, h, Nat.mul_zero]; rfl
theorem sh_list {i n : Nat} {r : Nat → Nat} {o : Ob} (hi : i < 5) (hn : n < 8192) (hc4 : cbN n 12 ≤ 4) (e1 : gA o 1 i = iI n) :
    ∃ f2 : Nat → Int32, (∀ g, g < cbN n 12 → f2 (4 * i + g) = iI ((chN n g : Nat) : Int)) ∧ (∀ x, x < 4 * i ∨ 4 * i + 4 ≤ x → f2 x = gA o 2 x) ∧ (∀ Q : Int32 → Ob → Prop, Q (iI ((cbN n 12 : Nat) : Int)) (sA o 2 f2) → f_Sh_listChoices (iI i) r o Q) := by
  have lp : ∀ (f c : Nat) (h2 : Nat → Int32), f + c = 13 → 1 ≤ c → (∀ g, g < cbN n (c - 1) → h2 (4 * i + g) = iI ((chN n g : Nat) : Int)) → (∀ x, x < 4 * i ∨ 4 * i + 4 ≤ x → h2 x = gA o 2 x) →
      ∃ f2 : Nat → Int32, (∀ g, g < cbN n 12 → f2 (4 * i + g) = iI ((chN n g : Nat) : Int)) ∧ (∀ x, x < 4 * i ∨ 4 * i + 4 ≤ x → f2 x = gA o 2 x) ∧ (∀ Q : Int32 → Ob → Prop, Q (iI ((cbN n 12 : Nat) : Int)) (sA o 2 f2) → f_Sh_listChoices_4 r Q (f + 1) (iI i) (iI ((cbN n (c - 1) : Nat) : Int)) (iI c) (sA o 2 h2)) := by
    intro f
    induction f with
    | zero =>
      intro c h2 hc h1 ha hb
      have : c = 13 := by omega
      subst this
      refine ⟨h2, ha, hb, fun Q hQ => ?_⟩
      unfold f_Sh_listChoices_4
      exact k_t (by decide) hQ
    | succ f ih =>
      intro c h2 hc h1 ha hb
      have hle := cbN_mono n (show c - 1 ≤ 12 by omega)
      have ec : iI (c : Int) + (1 : Int32) = iI ((c + 1 : Nat) : Int) := ix_add c 1
      have hpred := cbN_pred n h1
      have hlec := cbN_mono n (show c ≤ 12 by omega)
      by_cases h4 : cbN n (c - 1) = 4
      · have h12 : cbN n 12 = cbN n (c - 1) := by omega
        refine ⟨h2, fun g hg => ha g (by omega), hb, fun Q hQ => ?_⟩
        unfold f_Sh_listChoices_4
        refine b_lt (a := 12) (fun q => by omega) (fun _ => b_le (a := 4) (fun _ => ?_) (fun q => by omega))
        rw [← h12]; exact hQ
      · have hbit := and_bit (n := n) (c := c) hn (by omega)
        rcases bN_01 n c with h0 | h0
        · obtain ⟨f2, a1, a2, a3⟩ := ih (c + 1) h2 (by omega) (by omega) (by rw [show c + 1 - 1 = c by omega, hpred, h0]; exact ha) hb
          refine ⟨f2, a1, a2, fun Q hQ => ?_⟩
          have := a3 Q hQ
          rw [show c + 1 - 1 = c by omega, hpred, h0, Nat.add_zero] at this
          unfold f_Sh_listChoices_4
          rw [ec, cl_nat (by omega)]
          refine b_lt (a := 12) (fun q => by omega) (fun _ => b_le (a := 4) (fun q => by omega) (fun _ => ⟨v_nat hi (by decide), k_n (k_t ?_ this)⟩))
          show gA o 1 i &&& _ = 0
          rw [e1]; exact hbit.mpr h0
        · have hch := chN_at (n := n) (c := c) h1 (by omega) h0
          obtain ⟨f2, a1, a2, a3⟩ := ih (c + 1) (upd h2 (4 * i + cbN n (c - 1)) (iI c)) (by omega) (by omega) (fun g hg => by
            rw [show c + 1 - 1 = c by omega, hpred, h0] at hg
            by_cases hgc : g = cbN n (c - 1)
            · rw [hgc, upd_same, hch]
            · rw [upd_ne _ _ _ _ (by omega)]; exact ha g (by omega)) (fun x hx => by
            rw [upd_ne _ _ _ _ (by omega)]; exact hb x hx)
          refine ⟨f2, a1, a2, fun Q hQ => ?_⟩
          have h3 := a3 Q hQ
          rw [show c + 1 - 1 = c by omega, hpred, h0] at h3
          have e4 : iI (i : Int) * (4 : Int32) + iI ((cbN n (c - 1) : Nat) : Int) = iI ((4 * i + cbN n (c - 1) : Nat) : Int) := by
            rw [show (4 : Int32) = iI 4 from rfl, iI_mul, iI_add]; congr 1; omega
          have e5 : iI ((cbN n (c - 1) : Nat) : Int) + (1 : Int32) = iI ((cbN n (c - 1) + 1 : Nat) : Int) := ix_add _ 1
          unfold f_Sh_listChoices_4
          rw [ec, e4, e5, cl_nat (by omega), cl_nat (by omega), sA_sA]
          refine b_lt (a := 12) (fun q => by omega) (fun _ => b_le (a := 4) (fun q => by omega) (fun _ => ⟨v_nat hi (by decide), k_n (k_f ?_ ⟨v_nat (by omega) (by decide), h3⟩)⟩))
          show ¬ gA o 1 i &&& _ = 0
          rw [e1]
          intro q
          have := hbit.mp q
          omega
  obtain ⟨f2, a1, a2, a3⟩ := lp 12 1 (gA o 2) rfl (Nat.le_refl _) (fun g hg => by have : g < 0 := hg; omega) (fun _ _ => rfl)
  refine ⟨f2, a1, a2, fun Q hQ => ?_⟩
  unfold f_Sh_listChoices
  have e : sA o 2 (gA o 2) = o := by
    show (o.1, o.2.1, up o.2.2.1 2 (o.2.2.1 2), o.2.2.2) = o
    have : up o.2.2.1 2 (o.2.2.1 2) = o.2.2.1 := by
      funext j
      unfold up
      cases hb : Nat.beq j 2 with
      | false => rfl
      | true => rw [Nat.eq_of_beq_eq_true hb]; rfl
    rw [this]
  have := a3 Q hQ
  rw [e] at this
  exact ⟨13, this⟩
/-- what the class's Shapes hold between calls -/
def RSh (np : Nat) (r : Nat → Nat) (o : Ob) : Prop := gI o 0 = iI np ∧ r 109 ≤ 5120 ∧ r 111 ≤ 8192 ∧ ((∀ i, i < np → gA o 1 i = 0) ∨ ∃ n, SHL np n r o ∧ SBX np n o)
theorem sh_layOut {np : Nat} {n r : Nat → Nat} {o : Ob} {gr : Nat → Int32} {Q : (Nat → Nat) → Ob → Prop} (hnp : np ≤ 5) (hnp1 : 1 ≤ np) (hR : RSh np r o) (hok : okS np n) (hg : ∀ i, i < np → gr i = iI (n i)) (hQ : ∀ r' o', SHL np n r' o' → SBX np n o' → r' 11 = r 11 → r' 111 = r 111 → gA o' 11 = gA o 11 → Q r' o') : f_Sh_layOut r o gr Q := by
  obtain ⟨h0, hr1, hr2, hcase⟩ := hR
  have T0 := okS_le hok hnp (i := 0) (by omega)
  -- laid out anew
  have l57 : ∀ (f : Nat) (u : Ob), f ≤ np → gI u 0 = iI np → gA u 11 = gA o 11 → (∀ i, f ≤ i → i < np → gA u 1 i = iI (n i)) → (∀ i, f ≤ i → i < np → gA u 3 i = iI ((szN n i : Nat) : Int) ∧ gA u 4 i = iI ((TT (szN n) np (i + 1) : Nat) : Int) ∧ ∀ g, g < szN n i → gA u 2 (4 * i + g) = iI ((chN (n i) g : Nat) : Int)) → gI u 8 = iI ((TT (szN n) np f : Nat) : Int) → f_Sh_layOut_57 gr Q (f + 1) 0 0 (iI ((f : Int) - 1)) r u := by
    intro f
    induction f with
    | zero =>
      intro u _ u0 u11 u1 u3 u8
      unfold f_Sh_layOut_57
      have e5 : gI u 8 * (5 : Int32) = iI ((TT (szN n) np 0 * 5 : Nat) : Int) := by rw [u8, show (5 : Int32) = iI 5 from rfl, iI_mul]; congr 1
      rw [e5, iI_nI]
      have mk : ∀ r' o', (∀ k, k ≠ 10 → gI o' k = gI u k) → gI o' 10 = 0 → (∀ k, k ≠ 9 → gA o' k = gA u k) → 5 * TT (szN n) np 0 ≤ r' 109 → r' 109 ≤ 5120 → r' 11 = r 11 → r' 111 = r 111 → Q r' o' := by
        intro r' o' g1 g2 g3 g4 g5 g6 g7
        refine hQ r' o' ⟨by rw [g1 0 (by decide)]; exact u0, hok, fun i hi => by rw [g3 1 (by decide)]; exact u1 i (by omega) hi, fun i hi => ?_, by rw [g1 8 (by decide)]; exact u8, g4, g5, by omega⟩ ⟨0, by decide, g2, fun tn _ hb => ?_⟩ g6 g7 (by rw [g3 11 (by decide)]; exact u11)
        · rw [g3 3 (by decide), g3 4 (by decide), g3 2 (by decide)]; exact u3 i (by omega) hi
        · unfold bN at hb
          simp at hb
      refine b_lt (b := 0) (fun _ => b_le (fun q => ⟨by decide, by decide, ?_⟩) (fun q => ⟨fun q1 => ?_, by decide, ?_, fun q8 => ⟨by decide, ?_, ?_⟩⟩)) (fun q => by omega)
      · exact mk r _ (fun k hk => gI_sI_ne _ _ _ _ hk) (gI_sI_same _ _ _) (fun k _ => rfl) (by omega) hr1 rfl rfl
      · have := (iI_lt (b := 0) (by omega) (by omega)).mp q1
        omega
      · rw [cl_nat (by omega)]; omega
      · rw [cl_nat (by omega)]; omega
      · refine mk _ _ (fun k hk => ?_) rfl (fun k hk => gA_sA_ne _ _ _ _ hk) ?_ ?_ rfl rfl
        · show gI (sI u 10 0) k = _
          exact gI_sI_ne _ _ _ _ hk
        · show 5 * _ ≤ (iI ((TT (szN n) np 0 * 5 : Nat) : Int)).toNatClampNeg
          rw [cl_nat (by omega)]; omega
        · show (iI ((TT (szN n) np 0 * 5 : Nat) : Int)).toNatClampNeg ≤ 5120
          rw [cl_nat (by omega)]; omega
    | succ f ih =>
      intro u hf u0 u11 u1 u3 u8
      have em : iI (((f + 1 : Nat) : Int) - 1) = iI (f : Int) := by congr 1; omega
      have ed : iI (f : Int) + (-1 : Int32) = iI ((f : Int) - 1) := by rw [show (-1 : Int32) = iI (-1) by decide, iI_add]; rfl
      obtain ⟨k1, k2, k3, k4⟩ := hok f (by omega)
      obtain ⟨f2, a1, a2, a3⟩ := sh_list (i := f) (n := n f) (r := r) (o := sA u 1 (upd (gA u 1) f (iI (n f)))) (by omega) k1 k4 (by show upd _ _ _ _ = _; rw [upd_same])
      have v5 : vp_in (iI (f : Int)) 5 := v_nat (by omega) (by decide)
      unfold f_Sh_layOut_57
      rw [em, ed, cl_nat (by omega), hg f (by omega)]
      refine b_lt (b := 0) (fun q => by omega) (fun _ => ⟨v5, v5, by decide, by decide, a3 _ ⟨v5, v5, v5, k_e (upd_same _ _ _) ?_⟩⟩)
      have e8 : gI (sA (sA u 1 (upd (gA u 1) f (iI (n f)))) 2 f2) 8 = iI ((TT (szN n) np (f + 1) : Nat) : Int) := u8
      have em8 : iI ((TT (szN n) np (f + 1) : Nat) : Int) * iI ((cbN (n f) 12 : Nat) : Int) = iI ((TT (szN n) np f : Nat) : Int) := by
        rw [iI_mul, TT_st (szN n) (show f < np by omega), Nat.mul_comm]; congr 1
      rw [e8, em8]
      refine ih _ (by omega) u0 u11 (fun i i1 i2 => ?_) (fun i i1 i2 => ?_) rfl
      · show upd (gA u 1) f (iI (n f)) i = _
        by_cases hif : i = f
        · subst hif; exact upd_same _ _ _
        · rw [upd_ne _ _ _ _ hif]; exact u1 i (by omega) i2
      · show upd (gA u 3) f (iI ((cbN (n f) 12 : Nat) : Int)) i = _ ∧ upd (gA u 4) f (iI ((TT (szN n) np (f + 1) : Nat) : Int)) i = _ ∧ ∀ g, g < szN n i → f2 (4 * i + g) = _
        by_cases hif : i = f
        · subst hif; rw [upd_same, upd_same]; exact ⟨rfl, rfl, a1⟩
        · rw [upd_ne _ _ _ _ hif, upd_ne _ _ _ _ hif]
          obtain ⟨p1, p2, p3⟩ := u3 i (by omega) i2
          refine ⟨p1, p2, fun g hg' => ?_⟩
          have hg4 : g < 4 := Nat.lt_of_lt_of_le hg' (hok i i2).2.2.2
          rw [a2 _ (by omega)]
          exact p3 g hg'
  -- is it the same grid?
  have same : ∀ n', SHL np n' r o → SBX np n' o → (∀ i, i < np → gA o 1 i = gr i) → Q r o := by
    intro n' hS hB he
    have hnn : ∀ i, i < np → n' i = n i := fun i hi => by
      have h1 := hS.2.2.1 i hi
      rw [he i hi, hg i hi] at h1
      have := (iI_eq (by have := (hok i hi).1; omega) (by have := (hS.2.1 i hi).1; omega)).mp h1
      omega
    have hsz : ∀ i, i < np → szN n' i = szN n i := fun i hi => by show cbN (n' i) 12 = cbN (n i) 12; rw [hnn i hi]
    have hTT : ∀ d i, d + i = np → TT (szN n') np i = TT (szN n) np i := by
      intro d
      induction d with
      | zero => intro i hi
                have : i = np := by omega
                subst this; rw [TT_end, TT_end]
      | succ d ih => intro i hi
                     rw [TT_st (szN n') (show i < np by omega), TT_st (szN n) (show i < np by omega), hsz i (by omega), ih (i + 1) (by omega)]
    have hT0 := hTT np 0 rfl
    obtain ⟨s0, s1, s2, s3, s4, s5, s6, s7⟩ := hS
    refine hQ r o ⟨s0, hok, fun i hi => by rw [s2 i hi, hnn i hi], fun i hi => ?_, by rw [s4, hT0], by rw [← hT0]; exact s5, s6, s7⟩ ?_ rfl rfl rfl
    · have := s3 i hi
      rw [hsz i hi, hTT (np - (i + 1)) (i + 1) (by omega), hnn i hi] at this
      exact this
    · obtain ⟨b, b1, b2, b3⟩ := hB
      refine ⟨b, b1, b2, fun tn ht hb k hk => ?_⟩
      have := b3 tn ht hb k (by rw [hT0]; exact hk)
      rw [hT0] at this
      rw [this]
      have : bxs n' np k tn = bxs n np k tn := by
        unfold bxs
        refine bx_congr _ (fun i hi => ?_)
        unfold shp dg
        rw [hnn i hi, hsz i hi, hTT (np - (i + 1)) (i + 1) (by omega)]
      rw [this]
  have l4 : ∀ (f i : Nat) (x : Int32), f + i = np → (x = 1 ∧ (∀ j, j < i → gA o 1 j = gr j)) ∨ (x = 0 ∧ True) → f_Sh_layOut_4 gr Q (f + 1) 0 0 x (iI i) r o := by
    intro f
    induction f with
    | zero =>
      intro i x hi hx
      have : i = np := by omega
      subst this
      unfold f_Sh_layOut_4
      rw [h0]
      refine k_t (Int32.le_refl _) ?_
      have e1 : iI (i : Int) - (1 : Int32) = iI ((i : Int) - 1) := iI_sub _ 1
      rcases hx with ⟨ex, hj⟩ | ⟨ex, -⟩
      · refine k_f (by rw [ex]; decide) ⟨by decide, by decide, ?_⟩
        rcases hcase with hz | ⟨n', hS, hB⟩
        · exfalso
          have h1 := hz 0 (by omega)
          have h2 := hj 0 (by omega)
          rw [h1, hg 0 (by omega)] at h2
          have h3 := (iI_eq (a := 0) (by omega) (by have := (hok 0 (by omega)).1; omega)).mp h2
          have h4 : n 0 = 0 := by omega
          have h5 := (hok 0 (by omega)).2.2.1
          rw [h4] at h5
          exact absurd h5 (by decide)
        · exact same n' hS hB hj
      · rw [e1]
        refine k_t ex ⟨i + 1, l57 i (sI o 8 1) (Nat.le_refl _) h0 rfl (fun j j1 j2 => by omega) (fun j j1 j2 => by omega) ?_⟩
        rw [TT_end]; rfl
    | succ f ih =>
      intro i x hi hx
      have ei : iI (i : Int) + (1 : Int32) = iI ((i + 1 : Nat) : Int) := ix_add i 1
      have v5 : vp_in (iI (i : Int)) 5 := v_nat (by omega) (by decide)
      unfold f_Sh_layOut_4
      rw [h0, ei, cl_nat (by omega)]
      refine b_le (fun q => by omega) (fun _ => ?_)
      rcases hx with ⟨ex, hj⟩ | ⟨ex, -⟩
      · refine k_f (by rw [ex]; decide) ⟨v5, v5, k_c (fun e => ih (i + 1) 1 (by omega) (Or.inl ⟨rfl, fun j hj' => ?_⟩)) (fun _ => ih (i + 1) 0 (by omega) (Or.inr ⟨rfl, trivial⟩))⟩
        by_cases hji : j = i
        · subst hji; exact e
        · exact hj j (by omega)
      · exact k_t ex (ih (i + 1) 0 (by omega) (Or.inr ⟨rfl, trivial⟩))
  unfold f_Sh_layOut
  exact ⟨np + 1, l4 np 0 1 rfl (Or.inl ⟨rfl, fun j hj => by omega⟩)⟩
