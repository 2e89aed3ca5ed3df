-- words, letters, ends of clauses
def wdN (i j : Nat) : Nat := (sch i j).toNatClampNeg
theorem wF : ∀ i : Nat, i < 11 → 2 ≤ slen i ∧ slen i ≤ 7 ∧ ∀ j : Nat, j < 7 → j < slen i → (97 ≤ wdN i j ∧ wdN i j ≤ 122 ∧ sch i j = iI ((wdN i j : Nat) : Int)) := by decide
def WM (b : Nat → Nat) (s e k i : Nat) : Prop := k = 2 ∧ e - s = slen i ∧ ∀ j, j < slen i → b (s + j) = wdN i j
def LTM (b : Nat → Nat) (s e k : Nat) : Prop := k = 2 ∧ e - s = 1 ∧ 65 ≤ b s ∧ b s ≤ 72
section WD
variable {np n : Nat} {b : Nat → Nat} {ta c u : Ob} {r : Nat → Nat} {z : Int32}
theorem cl_isWord {s e k i : Nat} {Q : Int32 → Prop} (hi : i < 11) (hTB : TB b n ta) (hse : s ≤ e) (hen : e ≤ n) (hk6 : k ≤ 6) (c3 : gI c 3 = iI s) (c4 : gI c 4 = iI e) (c5 : gI c 5 = iI k) (h1 : WM b s e k i → Q 1) (h0 : ¬ WM b s e k i → Q 0) : f_Re_isWord i r c ta Q := by
  have hn := hTB.1
  obtain ⟨l2, l7, hw⟩ := wF i hi
  have ed : iI (e : Int) - iI (s : Int) = iI ((e : Int) - s) := iI_sub _ _
  unfold f_Re_isWord
  rw [c3, c4, c5, ed, iI_nI]
  refine b_eq (b := 2) (fun hk => ⟨hi, b_eq (fun hl => ?_) (fun hl => h0 (fun q => by have := q.2.1; omega))⟩) (fun hk => h0 (fun q => by have := q.1; omega))
  have lp : ∀ (d j : Nat), d + j = slen i → (∀ j', j' < j → b (s + j') = wdN i j') → f_Re_isWord_28 i r c ta Q (d + 1) (iI j) := by
    intro d
    induction d with
    | zero =>
      intro j hj hb
      have : j = slen i := by omega
      subst this
      unfold f_Re_isWord_28
      exact ⟨hi, k_t (Int32.le_refl _) (h1 ⟨by omega, by omega, hb⟩)⟩
    | succ d ih =>
      intro j hj hb
      have ej : iI (j : Int) + (1 : Int32) = iI ((j + 1 : Nat) : Int) := ix_add j 1
      have es : iI (s : Int) + iI (j : Int) = iI ((s + j : Nat) : Int) := ix_add s j
      obtain ⟨w1, w2, w3⟩ := hw j (by omega) (by omega)
      obtain ⟨b1, b2⟩ := hTB.2.2 (s + j) (by omega)
      have sb := sv_bd b1
      unfold f_Re_isWord_28
      rw [c3, es, ej, iI_nI, cl_nat (by omega), cl_nat (by omega), b2, w3]
      refine ⟨hi, b_le (fun q => by omega) (fun _ => ⟨v_nat (by omega) (by decide), hi, v_nat (by omega) (by omega), b_eq (fun q => ih (j + 1) (by omega) (fun j' hj' => ?_)) (fun q => h0 (fun w => ?_))⟩)⟩
      · by_cases e0 : j' = j
        · subst e0
          unfold sv at q
          by_cases g : b (s + j') < 128
          · rw [if_pos g] at q; omega
          · rw [if_neg g] at q; omega
        · exact hb j' (by omega)
      · have := w.2.2 j (by omega)
        rw [this, sv_lo (by omega)] at q
        exact q rfl
  exact ⟨_, lp (slen i) 0 rfl (fun j' hj' => by omega)⟩
theorem md_isWord {s e k i : Nat} {Q : Int32 → Prop} (hi : i < 11) (hb : ∀ i, i < n → b i < 256) (hT : TS b n s e k) (hk6 : k ≤ 6) (hM : MTk b s e k u) (h1 : WM b s e k i → Q 1) (h0 : ¬ WM b s e k i → Q 0) : f_Md_isWord (iL ((cdN (wdN i) (slen i) : Nat) : Int)) u Q := by
  obtain ⟨l2, l7, hw⟩ := wF i hi
  have hk1 := hT.ne1
  obtain ⟨-, -, m0, m3, m4, m5, m6, m2⟩ := hM
  unfold f_Md_isWord
  by_cases hk : k = 2
  · rcases m2 hk with ⟨a, q⟩ | ⟨a, a2, q, -⟩ | ⟨a, a2, q, q15⟩
    · rw [q]; exact k_f (by decide) (h0 (fun w => by have := w.2.1; omega))
    · rw [q]; exact k_f (by decide) (h0 (fun w => by have := w.2.1; omega))
    · rw [q, q15]
      have hbt : ∀ j, j < e - s → 1 ≤ b (s + j) ∧ b (s + j) < 256 := fun j hj => by
        rcases hT.2 with ⟨a, -⟩ | ⟨-, -, -, hx⟩
        · omega
        · rcases hx with ⟨-, g1, -⟩ | ⟨a, -, -⟩
          · have h2 := g1 (s + j) (by omega) (by omega)
            rw [hk] at h2
            have h3 := kV_2.mp h2
            have h4 := hb (s + j) (by have := hT.1; omega)
            omega
          · exact absurd hk a
      have p7 : ∀ L, L ≤ 7 → (256 : Nat) ^ L ≤ 72057594037927936 := fun L hL => by
        have : (256 : Nat) ^ L ≤ 256 ^ 7 := Nat.pow_le_pow_right (by decide) hL
        have e7 : (256 : Nat) ^ 7 = 72057594037927936 := by decide
        omega
      have x1 := cdN_bd (f := fun i => b (s + i)) (e - s) (fun j hj => (hbt j hj).2)
      have x2 := cdN_bd (f := wdN i) (slen i) (fun j hj => by have := hw j (by omega) hj; omega)
      have x3 := p7 (e - s) a
      have x4 := p7 (slen i) l7
      refine k_t rfl (l_eq (fun z => h1 ?_) (fun z => h0 (fun w => z ?_)))
      · have h5 := congrArg Int64.toInt z
        rw [toInt_iL (by omega) (by omega), toInt_iL (by omega) (by omega)] at h5
        obtain ⟨y1, y2⟩ := cdN_inj (f := fun i => b (s + i)) (g := wdN i) (e - s) (slen i) hbt (fun j hj => by have := hw j (by omega) hj; omega) (by omega)
        exact ⟨hk, y1, fun j hj => y2 j (by omega)⟩
      · rw [w.2.1, cdN_cg (f := fun i => b (s + i)) (g := wdN i) (slen i) w.2.2]
  · have h12 : gI u 12 ≠ 4 := by
      have hk' : k = 0 ∨ k = 3 ∨ k = 4 ∨ k = 5 ∨ k = 6 := by omega
      rcases hk' with e0 | e0 | e0 | e0 | e0
      · rw [m0 e0]; decide
      · rw [(m3 e0).1]; decide
      · rw [m4 e0]; decide
      · rw [m5 e0]; decide
      · rw [m6 e0]; decide
    exact k_f h12 (h0 (fun w => hk w.1))
theorem st_word {i : Nat} (hi : i < 11) (hTB : TB b n ta) (h : RR np b n c u z) : ∃ c' z' u', RR np b n c' u' z' ∧ mG u u' ∧ pos c ≤ pos c' ∧ (z' = 0 → z = 0) ∧ (∀ K : Ob → Prop, K c' → f_Re_takeWord i r c ta K) ∧ (∀ K : Int32 → Ob → Prop, K z' u' → (z = 0 → f_Md_need (iL ((cdN (wdN i) (slen i) : Nat) : Int)) u K) ∧ (¬ z = 0 → K z u)) := by
  have hRR := h
  obtain ⟨h1, h8, hU, s, e, k, hse, hk6, hT, ⟨h3, h4, h5⟩, hcase⟩ := h
  have hen := hT.1
  obtain ⟨c1, r1, p1, f1⟩ := st_fail (r := r) (1 : Int32) (by decide) hRR
  have nop : ∀ K : Ob → Prop, K c1 → f_Re_takeToken r c1 ta K := by
    intro K hK
    obtain ⟨-, -, -, s, e, k, -, -, -, -, hc1⟩ := r1
    have hz := zf_ne (z := z) (a := (1 : Int32)) (by decide)
    rcases hc1 with ⟨z0, -⟩ | ⟨-, c9, -⟩
    · exact absurd z0 hz
    · unfold f_Re_takeToken
      exact k_f (by rw [c9]; exact hz) hK
  rcases hcase with ⟨z0, c9, c10, hC, hM, t, t1, t2, t3⟩ | ⟨z0, c9, c10⟩
  · by_cases hw : WM b s e k i
    · obtain ⟨c', u', r', g', p', -, a1, a2⟩ := st_tok (r := r) hTB hRR
      refine ⟨c', z, u', r', g', p', fun q => q, fun K hK => ?_, fun K hK => k_t z0 ?_⟩
      · unfold f_Re_takeWord
        exact cl_isWord hi hTB hse hen hk6 h3 h4 h5 (fun _ => k_f (by decide) (a1 _ hK)) (fun q => absurd hw q)
      · unfold f_Md_need
        exact md_isWord hi (fun i hi => (hTB.2.2 i hi).1) hT hk6 hM (fun _ => k_f (by decide) ((a2 _ (by rw [← z0]; exact hK)).1 z0)) (fun q => absurd hw q)
    · refine ⟨c1, zf z 1, u, r1, mG.rf u, by omega, fun q => absurd q (zf_ne (by decide)), fun K hK => ?_, fun K hK => k_t z0 ?_⟩
      · unfold f_Re_takeWord
        exact cl_isWord hi hTB hse hen hk6 h3 h4 h5 (fun q => absurd q hw) (fun _ => k_t rfl (f1 _ (nop _ hK)))
      · rw [z0, zf_0] at hK
        unfold f_Md_need
        exact md_isWord hi (fun i hi => (hTB.2.2 i hi).1) hT hk6 hM (fun q => absurd q hw) (fun _ => k_t rfl hK)
  · refine ⟨c, z, u, hRR, mG.rf u, Nat.le_refl _, fun q => q, fun K hK => ?_, fun K hK => k_f z0 hK⟩
    have n9 : ¬ gI c 9 = 0 := by rw [c9]; exact z0
    have tk : f_Re_takeToken r c ta K := by
      unfold f_Re_takeToken
      exact k_f n9 hK
    unfold f_Re_takeWord
    refine cl_isWord hi hTB hse hen hk6 h3 h4 h5 (fun _ => k_f (by decide) tk) (fun _ => k_t rfl ?_)
    unfold f_Re_fail
    exact k_f n9 tk
theorem st_letter (hTB : TB b n ta) (h : RR np b n c u z) : ∃ v c' z', (v = (-1 : Int32) ∨ ∃ l : Nat, l < 8 ∧ v = iI l) ∧ RR np b n c' u z' ∧ pos c' = pos c ∧ (z' = 0 → z = 0 ∧ gI u 12 = 2 ∧ ∃ l : Nat, l < 8 ∧ v = iI l ∧ gI u 14 = iI l) ∧ (z = 0 → z' ≠ 0 → z' = 1 ∧ gI u 12 ≠ 2 ∧ v = -1) ∧ (z ≠ 0 → z' = z) ∧ ∀ K : Int32 → Ob → Prop, K v c' → f_Re_letterHere r c ta K := by
  have hn := hTB.1
  have hRR := h
  obtain ⟨h1, h8, hU, s, e, k, hse, hk6, hT, ⟨h3, h4, h5⟩, hcase⟩ := h
  have hen := hT.1
  have ed : iI (e : Int) - iI (s : Int) = iI ((e : Int) - s) := iI_sub _ _
  have run : ∀ Q : Int32 → Ob → Prop, (LTM b s e k → Q (iI ((b s - 65 : Nat) : Int)) c) → (¬ LTM b s e k → f_Re_fail (1 : Int32) r c (fun u => Q (-1 : Int32) u)) → f_Re_letterHere r c ta Q := by
    intro Q hy hno
    unfold f_Re_letterHere
    rw [h3, h4, h5, ed, cl_nat (by omega)]
    refine b_eq (b := 2) (fun hk => b_eq (b := 1) (fun hl => ⟨v_nat (by omega) (by decide), ?_⟩) (fun hl => hno (fun q => by have := q.2.1; omega))) (fun hk => hno (fun q => by have := q.1; omega))
    obtain ⟨b1, b2⟩ := hTB.2.2 s (by omega)
    have sb := sv_bd b1
    have e65 : gA ta 0 s - (65 : Int32) = iI (sv (b s) - 65) := by rw [b2]; exact iI_sub _ 65
    have hsv : (b s < 128 ∧ sv (b s) = b s) ∨ (128 ≤ b s ∧ sv (b s) < 0) := by
      by_cases g : b s < 128
      · exact Or.inl ⟨g, sv_lo g⟩
      · right
        refine ⟨by omega, ?_⟩
        unfold sv
        rw [if_neg g]
        omega
    refine k_e e65 (b_lt (b := 0) (fun q => hno (fun w => by have := w.2.2; omega)) (fun q => b_le (a := 8) (fun q2 => hno (fun w => by have := w.2.2; omega)) (fun q2 => ?_)))
    have := hy ⟨by omega, by omega, by omega, by omega⟩
    rw [show sv (b s) - 65 = ((b s - 65 : Nat) : Int) by omega]
    exact this
  by_cases hL : LTM b s e k
  · refine ⟨iI ((b s - 65 : Nat) : Int), c, z, Or.inr ⟨b s - 65, by have := hL.2.2; omega, rfl⟩, hRR, rfl, fun q => ?_, fun q1 q2 => absurd q1 q2, fun _ => rfl, fun K hK => run K (fun _ => hK) (fun q => absurd hL q)⟩
    rcases hcase with ⟨z0, c9, c10, hC, hM, t, t1, t2, t3⟩ | ⟨z0, -⟩
    · obtain ⟨-, -, -, -, -, -, -, m2⟩ := hM
      rcases m2 hL.1 with ⟨a, -⟩ | ⟨-, -, q12, q14⟩ | ⟨-, a, -⟩
      · have := hL.2.1; omega
      · refine ⟨z0, q12, b s - 65, by have := hL.2.2; omega, rfl, ?_⟩
        rw [q14]
        congr 1
        have := hL.2.2
        omega
      · exact absurd hL.2 a
    · exact absurd q z0
  · obtain ⟨c1, r1, p1, f1⟩ := st_fail (r := r) (1 : Int32) (by decide) hRR
    refine ⟨-1, c1, zf z 1, Or.inl rfl, r1, p1, fun q => absurd q (zf_ne (by decide)), fun q1 _ => ?_, fun q => zf_n q, fun K hK => run K (fun q => absurd q hL) (fun _ => f1 _ hK)⟩
    rcases hcase with ⟨z0, c9, c10, hC, hM, t, t1, t2, t3⟩ | ⟨z0, -⟩
    · refine ⟨by rw [q1, zf_0], fun q => hL ?_, rfl⟩
      exact (hM.one hk6 hT.ne1).2.2.2.2.mp q
    · exact absurd q1 z0
/-- what the model does after a clause -/
def SM (K : Int32 → Ob → Prop) (z : Int32) (u : Ob) : Prop := (z = 0 → ((gI u 12 = (59 : Int32) → f_Md_nextToken (sA u 5 (upd (gA u 5) 0 ((gA u 5 0) + (1 : Int32)))) (fun u6 => K 0 u6)) ∧ (¬ gI u 12 = (59 : Int32) → K 1 u))) ∧ (¬ z = 0 → K z u)
theorem st_semi (hTB : TB b n ta) (h : RR np b n c u z) : ∃ c' z' u', RR np b n c' u' z' ∧ mG (sA u 5 (gA u' 5)) u' ∧ pos c ≤ pos c' ∧ (z' = 0 → gI c' 5 ≠ 0 → pos c < pos c') ∧ (z' = 0 → z = 0 ∧ gI u 12 = 59 ∧ gA u' 5 = upd (gA u 5) 0 ((gA u 5 0) + (1 : Int32))) ∧ (∀ K : Ob → Prop, K c' → f_Re_takeSemicolon r c ta K) ∧ (∀ K : Int32 → Ob → Prop, K z' u' → SM K z u) := by
  have hRR := h
  have eta : sA u 5 (gA u 5) = u := sA_eta u 5
  obtain ⟨h1, h8, hU, s, e, k, hse, hk6, hT, ⟨h3, h4, h5⟩, hcase⟩ := h
  obtain ⟨c1, r1, p1, f1⟩ := st_fail (r := r) (1 : Int32) (by decide) hRR
  rcases hcase with ⟨z0, c9, c10, hC, hM, t, t1, t2, t3⟩ | ⟨z0, c9, c10⟩
  · have m5 := (hM.one hk6 hT.ne1).2.2.1
    by_cases hk : k = 5
    · obtain ⟨c', u', r', g', p', ps, a1, a2⟩ := st_tok (r := r) hTB (hRR.sa (upd (gA u 5) 0 ((gA u 5 0) + (1 : Int32))))
      have e5' : gA u' 5 = upd (gA u 5) 0 ((gA u 5 0) + (1 : Int32)) := by rw [g'.2.1]; rfl
      refine ⟨c', z, u', r', by rw [e5']; exact g', p', ps, fun _ => ⟨z0, m5.mpr hk, e5'⟩, fun K hK => ?_, fun K hK => k_t z0 (k_t (m5.mpr hk) ?_)⟩
      · unfold f_Re_takeSemicolon
        exact k_t (by rw [h5, hk]; rfl) (a1 _ hK)
      · exact (a2 (fun u6 => K 0 u6) (by rw [← z0]; exact hK)).1 z0
    · refine ⟨c1, zf z 1, u, r1, by rw [eta]; exact mG.rf u, by omega, fun q => absurd q (zf_ne (by decide)), fun q => absurd q (zf_ne (by decide)), fun K hK => ?_, fun K hK => k_t z0 (k_f (fun q => hk (m5.mp q)) ?_)⟩
      · unfold f_Re_takeSemicolon
        refine k_f (fun q => hk ?_) (f1 _ ?_)
        · rw [h5] at q
          have := (iI_eq (b := 5) (by omega) (by omega)).mp q
          omega
        · obtain ⟨-, -, -, s, e, k, -, -, -, -, hc1⟩ := r1
          have hz := zf_ne (z := z) (a := (1 : Int32)) (by decide)
          rcases hc1 with ⟨z0, -⟩ | ⟨-, c9, -⟩
          · exact absurd z0 hz
          · unfold f_Re_takeToken
            exact k_f (by rw [c9]; exact hz) hK
      · rw [z0, zf_0] at hK; exact hK
  · have n9 : ¬ gI c 9 = 0 := by rw [c9]; exact z0
    refine ⟨c, z, u, hRR, by rw [eta]; exact mG.rf u, Nat.le_refl _, fun q => absurd q z0, fun q => absurd q z0, fun K hK => ?_, fun K hK => k_f z0 hK⟩
    have tk : f_Re_takeToken r c ta K := by
      unfold f_Re_takeToken
      exact k_f n9 hK
    unfold f_Re_takeSemicolon
    refine k_c (fun _ => tk) (fun _ => ?_)
    unfold f_Re_fail
    exact k_f n9 tk
end WD
