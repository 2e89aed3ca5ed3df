section TM
variable {m : Ob} {x : Int} {Q : Int32 → Prop}
theorem md_109 {K : Int32 → Int64 → Int64 → Int32 → Int32 → Int32 → Prop} {i : Nat} {r' v' : Int} {xx xn xu : Int32} (hi : i < 5) (hw : ∀ k, k ≤ i → okW (gA m 38 k)) (h0 : i = 0 → ∀ r v, K xx (iL r) (iL v) xn xu (iI (-1))) (h : i ≠ 0 → K xx (iL (r' * wZ (gA m 38) (i - 1))) (iL (v' * wZ (gA m 38) i)) xn xu (iI ((i : Int) - 1))) :
    f_Md_aboveOf_109 m K Q xx (iL r') (iL v') xn xu (iI i) := by
  unfold f_Md_aboveOf_109
  have em : iI (i : Int) + (-1 : Int32) = iI ((i : Int) - 1) := by rw [show (-1 : Int32) = iI (-1) by decide, iI_add]; rfl
  have es : iI (i : Int) - (1 : Int32) = iI ((i : Int) - 1) := iI_sub _ 1
  rw [em, es]
  refine b_eq (b := 0) (fun q => ?_) (fun q => ?_)
  · have : i = 0 := by omega
    subst this
    exact h0 rfl _ _
  · have e1 : (iI ((i : Int) - 1)).toNatClampNeg = i - 1 := by rw [iI_cl (by omega) (by omega)]; omega
    have e2 : (iI (i : Int)).toNatClampNeg = i := cl_nat (by omega)
    obtain ⟨a1, a2, a3⟩ := wZ_ok (hw (i - 1) (by omega))
    obtain ⟨b1, b2, b3⟩ := wZ_ok (hw i (by omega))
    refine ⟨v_in (by omega) (by decide), ?_⟩
    rw [e1, e2]
    refine k_n ⟨v_nat hi (by decide), ?_⟩
    rw [a3, b3, iI_toL (by omega) (by omega), iI_toL (by omega) (by omega), iL_mul, iL_mul]
    exact h (by omega)
theorem md_19 (hx : -20 ≤ x ∧ x ≤ 20) : ∀ (d : Nat) (r v B : Int) (b : Bool) (c : Nat), d ≤ 5 → (∀ k, k < d → okW (gA m 38 k)) → (-B ≤ r ∧ r ≤ B) → (-B ≤ v ∧ v ≤ B) → B * 9600 ^ (d - 1) * 800 < 9223372036854775808 → Q (iI ((c + cN (wZ (gA m 38)) x d (sg b * r) (sg b * v) : Nat) : Int)) → f_Md_aboveOf_19 m Q (d + 1) (iI x) (iL r) (iL v) (iI c) (bI (!b)) (iI ((d : Int) - 1)) := by
  intro d
  induction d with
  | zero =>
    intro r v B b c _ _ _ _ _ hq
    unfold f_Md_aboveOf_19
    exact b_lt (b := 0) (fun _ => hq) (fun q => by omega)
  | succ d ih =>
    intro r v B b c hd hw hr hv hB hq
    have hB0 : 0 ≤ B := by omega
    have hp : (1 : Int) ≤ 9600 ^ d := by
      have : (0 : Int) < 9600 ^ d := Int.pow_pos (by decide)
      omega
    have hB1 : B ≤ B * 9600 ^ d := by
      have := Int.mul_le_mul_of_nonneg_left hp hB0
      omega
    have hB2 : B * 9600 ^ d * 800 < 9223372036854775808 := by simpa using hB
    obtain ⟨s1, s2, s3⟩ := tn_step hx hr hv
    unfold f_Md_aboveOf_19
    have ei : iI (((d + 1 : Nat) : Int) - 1) = iI (d : Int) := by congr 1; omega
    have e1 : (20 : Int64) * (iI x).toInt64 * iL v + (400 : Int64) * iL r = iL (20 * x * v + 400 * r) := by
      rw [iI_toL (by omega) (by omega), show (400 : Int64) = iL 400 from rfl, show (20 : Int64) = iL 20 from rfl, iL_mul, iL_mul, iL_mul, iL_add]
    have e2 : (20 : Int64) * (iI x).toInt64 * iL r - ((400 : Int64) - (iI x * iI x).toInt64) * iL v = iL (20 * x * r - (400 - x * x) * v) := by
      rw [iI_mul, iI_toL (by omega) (by omega), iI_toL (by omega) (by omega), show (400 : Int64) = iL 400 from rfl, show (20 : Int64) = iL 20 from rfl, iL_mul, iL_mul, iL_sub, iL_mul, iL_sub]
    rw [ei, e1, e2]
    refine b_lt (b := 0) (fun q => by omega) (fun _ => k_n (k_n ?_))
    rw [cmp0 (by omega) (by omega)]
    have go : ∀ (b' : Bool) (c' : Nat), (sg b * (20 * x * v + 400 * r) < 0 → b' = !b ∧ c' = c + 1) → (¬ sg b * (20 * x * v + 400 * r) < 0 → b' = b ∧ c' = c) → f_Md_aboveOf_109 m (f_Md_aboveOf_19 m Q (d + 1)) Q (iI x) (iL (20 * x * r - (400 - x * x) * v)) (iL (20 * x * v + 400 * r)) (iI c') (bI (!b')) (iI d) := by
      intro b' c' g1 g2
      have tot : c' + cN (wZ (gA m 38)) x d (sg b' * ((20 * x * r - (400 - x * x) * v) * wZ (gA m 38) (d - 1))) (sg b' * ((20 * x * v + 400 * r) * wZ (gA m 38) d)) = c + cN (wZ (gA m 38)) x (d + 1) (sg b * r) (sg b * v) := by
        rw [cN_step]
        by_cases hf : sg b * (20 * x * v + 400 * r) < 0
        · obtain ⟨h1, h2⟩ := g1 hf
          subst h1 h2
          rw [if_pos hf]; omega
        · obtain ⟨h1, h2⟩ := g2 hf
          subst h1 h2
          rw [if_neg hf]
      refine md_109 (by omega) (fun k hk => hw k (by omega)) (fun hd0 r2 v2 => ?_) (fun hd0 => ?_)
      · subst hd0
        unfold f_Md_aboveOf_19
        refine b_lt (b := 0) (fun _ => ?_) (fun q => by omega)
        rw [← tot] at hq
        simpa [cN] using hq
      · obtain ⟨a1, a2, a3⟩ := wZ_ok (hw (d - 1) (by omega))
        obtain ⟨b1, b2, b3⟩ := wZ_ok (hw d (by omega))
        have m1 := mul_bd (a := 20 * x * r - (400 - x * x) * v) (A := 800 * B) s1 (b := wZ (gA m 38) (d - 1)) (B := 12) (by omega)
        have m2 := mul_bd (a := 20 * x * v + 400 * r) (A := 800 * B) s2 (b := wZ (gA m 38) d) (B := 12) (by omega)
        refine ih _ _ (9600 * B) b' c' (by omega) (fun k hk => hw k (by omega)) (by omega) (by omega) ?_ ?_
        · have e : (9600 : Int) ^ d = 9600 ^ (d - 1) * 9600 := by
            obtain ⟨k, rfl⟩ : ∃ k, d = k + 1 := ⟨d - 1, by omega⟩
            simp [Int.pow_succ]
          rw [e] at hB2
          have : 9600 * B * 9600 ^ (d - 1) * 800 = B * (9600 ^ (d - 1) * 9600) * 800 := by grind
          rw [this]; exact hB2
        · rw [tot]; exact hq
    have one : iI (c : Int) + (1 : Int32) = iI ((c + 1 : Nat) : Int) := ix_add c 1
    rw [one]
    by_cases hz : 20 * x * v + 400 * r = 0
    · have : (if 0 < 20 * x * v + 400 * r then (1 : Int32) else if 20 * x * v + 400 * r = 0 then 0 else -1) = 0 := by rw [if_neg (by omega), if_pos hz]
      rw [this]
      refine k_t rfl (go b c (fun q => ?_) (fun _ => ⟨rfl, rfl⟩))
      rw [hz] at q; simp at q
    · by_cases hpz : 0 < 20 * x * v + 400 * r
      · rw [if_pos hpz]
        refine k_f (by decide) (k_f (by decide) ?_)
        rcases sg_cases b with ⟨hs, hb⟩ | ⟨hs, hb⟩
        · subst hb
          exact k_t rfl (go false c (fun q => by rw [hs] at q; omega) (fun _ => ⟨rfl, rfl⟩))
        · subst hb
          exact k_f (by decide) (k_t rfl (go false (c + 1) (fun _ => ⟨rfl, rfl⟩) (fun q => by rw [hs] at q; omega)))
      · rw [if_neg hpz, if_neg hz]
        refine k_f (by decide) (k_t (by decide) ?_)
        rcases sg_cases b with ⟨hs, hb⟩ | ⟨hs, hb⟩
        · subst hb
          exact k_f (by decide) (k_f (by decide) (go true (c + 1) (fun _ => ⟨rfl, rfl⟩) (fun q => by rw [hs] at q; omega)))
        · subst hb
          exact k_t rfl (go true c (fun q => by rw [hs] at q; omega) (fun _ => ⟨rfl, rfl⟩))
theorem md_above {np : Nat} (hp : gI m 0 = iI np) (hx : -20 ≤ x ∧ x ≤ 20) (hn : np ≤ 5) (hw : ∀ k, k < np → okW (gA m 38 k)) (hq : Q (iI (cnt (gA m 38) np x : Nat))) : f_Md_aboveOf (iI x) m Q := by
  unfold f_Md_aboveOf
  rw [hp]
  have e3 : iI (np : Int) - (1 : Int32) = iI ((np : Int) - 1) := iI_sub _ 1
  rw [e3]
  refine ⟨np + 1, md_19 (b := false) (c := 0) hx np 0 1 1 hn hw (by omega) (by omega) ?_ ?_⟩
  · have hk : ∀ k : Nat, k < 5 → (9600 : Int) ^ k ≤ 8493465600000000 := by decide
    have := hk (np - 1) (by omega)
    omega
  · simpa [cnt, sg] using hq
end TM
-- boxes
theorem cN_congr {w w' : Nat → Int} (x : Int) : ∀ (i : Nat) (R V : Int), (∀ k, k < i → w k = w' k) → cN w x i R V = cN w' x i R V := by
  intro i
  induction i with
  | zero => intro R V _; rfl
  | succ i ih =>
    intro R V h
    simp only [cN]
    cases i with
    | zero => simp [cN]
    | succ i =>
      have h1 : w (i + 1 - 1) = w' (i + 1 - 1) := h _ (by omega)
      have h2 : w (i + 1) = w' (i + 1) := h _ (by omega)
      rw [h1, h2, ih _ _ (fun k hk => h k (by omega)), ih _ _ (fun k hk => h k (by omega))]
theorem cnt_congr {o o' : Nat → Int32} {np : Nat} (x : Int) (h : ∀ k, k < np → o k = o' k) : cnt o np x = cnt o' np x := cN_congr x np 0 1 (fun k hk => by unfold wZ; rw [h k hk])
theorem cN_mono' (w : Nat → Int) {n : Nat} (hw : ∀ i, i < n → 0 < w i) {x y : Int} (hxy : x ≤ y) : cN w y n 0 1 ≤ cN w x n 0 1 := by
  have e : ∀ x, cN w x n 0 1 = cN (fun i => if i < n then w i else 1) x n 0 1 := fun x => cN_congr x n 0 1 (fun k hk => by rw [if_pos hk])
  rw [e, e]
  refine cN_mono _ (fun i => ?_) hxy n
  by_cases hi : i < n
  · simp only [if_pos hi]; exact hw i hi
  · simp only [if_neg hi]; omega
theorem cnt_anti {o : Nat → Int32} {np : Nat} (hw : ∀ k, k < np → okW (o k)) {x y : Int} (h : x ≤ y) : cnt o np y ≤ cnt o np x := cN_mono' (wZ o) (fun i hi => by have := wZ_ok (hw i hi); omega) h
theorem cN_20 (w : Nat → Int) (n : Nat) (hw : ∀ i, i < n → 0 < w i) : ∀ (i : Nat) (V : Int), i ≤ n → 0 < V → cN w 20 i 0 V = 0 := by
  intro i
  induction i with
  | zero => intro V _ _; rfl
  | succ i ih =>
    intro V hi hV
    simp only [cN]
    rw [if_neg (by omega)]
    have e : (20 * 20 * 0 - (400 - 20 * 20) * V) * w (i - 1) = 0 := by simp
    rw [e]
    exact ih _ (by omega) (Int.mul_pos (by omega) (hw i (by omega)))
theorem cnt_20 {o : Nat → Int32} {np : Nat} (hw : ∀ k, k < np → okW (o k)) : cnt o np 20 = 0 := cN_20 (wZ o) np (fun i hi => by have := wZ_ok (hw i hi); omega) np 1 (Nat.le_refl _) (by omega)
/-- the greatest x of -20 .. 19 with more than k above it, or -100 -/
def bxF (C : Int → Nat) (k : Int) : Nat → Int → Int
  | 0, _ => -100
  | d + 1, x => if k < (C x : Int) then x else bxF C k d (x - 1)
def bx (o : Nat → Int32) (np : Nat) (k : Int) : Int := bxF (cnt o np) k 40 19
theorem bxF_at {C : Int → Nat} {k : Int} : ∀ (d : Nat) (x : Int) (j : Nat), j < d → k < (C (x - j) : Int) → (∀ i : Nat, i < j → ¬ k < (C (x - i) : Int)) → bxF C k d x = x - j := by
  intro d
  induction d with
  | zero => intro x j hj; omega
  | succ d ih =>
    intro x j hj h1 h2
    simp only [bxF]
    cases j with
    | zero =>
      have : x - ((0 : Nat) : Int) = x := by omega
      rw [this] at h1 ⊢
      rw [if_pos h1]
    | succ j =>
      have h0 := h2 0 (by omega)
      have : x - ((0 : Nat) : Int) = x := by omega
      rw [this] at h0
      rw [if_neg h0, ih (x - 1) j (by omega) (by rw [show x - 1 - (j : Int) = x - ((j + 1 : Nat) : Int) by omega]; exact h1) (fun i hi => by rw [show x - 1 - (i : Int) = x - ((i + 1 : Nat) : Int) by omega]; exact h2 (i + 1) (by omega))]
      omega
theorem bxF_no {C : Int → Nat} {k : Int} : ∀ (d : Nat) (x : Int), (∀ i : Nat, i < d → ¬ k < (C (x - i) : Int)) → bxF C k d x = -100 := by
  intro d
  induction d with
  | zero => intro x _; rfl
  | succ d ih =>
    intro x h
    simp only [bxF]
    have h0 := h 0 (by omega)
    have : x - ((0 : Nat) : Int) = x := by omega
    rw [this] at h0
    rw [if_neg h0]
    exact ih (x - 1) (fun i hi => by rw [show x - 1 - (i : Int) = x - ((i + 1 : Nat) : Int) by omega]; exact h (i + 1) (by omega))
theorem bx_at {o : Nat → Int32} {np : Nat} {k x : Int} (hw : ∀ k, k < np → okW (o k)) (h1 : -20 ≤ x ∧ x ≤ 19) (h2 : k < (cnt o np x : Int)) (h3 : ¬ k < (cnt o np (x + 1) : Int)) : bx o np k = x := by
  have := bxF_at (C := cnt o np) (k := k) 40 19 (19 - x).toNat (by omega) (by rw [show (19 : Int) - ((19 - x).toNat : Nat) = x by omega]; exact h2) (fun i hi => by
    have := cnt_anti hw (x := x + 1) (y := 19 - (i : Int)) (by omega)
    omega)
  unfold bx
  rw [this]; omega
theorem bx_no {o : Nat → Int32} {np : Nat} {k : Int} (hw : ∀ k, k < np → okW (o k)) (h : ¬ k < (cnt o np (-20) : Int)) : bx o np k = -100 := by
  unfold bx
  refine bxF_no 40 19 (fun i hi => ?_)
  have := cnt_anti hw (x := -20) (y := 19 - (i : Int)) (by omega)
  omega
theorem bx_bd (o : Nat → Int32) (np : Nat) (k : Int) : bx o np k = -100 ∨ (-20 ≤ bx o np k ∧ bx o np k ≤ 19) := by
  have : ∀ (d : Nat) (x : Int), bxF (cnt o np) k d x = -100 ∨ (x - d < bxF (cnt o np) k d x ∧ bxF (cnt o np) k d x ≤ x) := by
    intro d
    induction d with
    | zero => intro x; exact Or.inl rfl
    | succ d ih =>
      intro x
      simp only [bxF]
      split
      · exact Or.inr (by omega)
      · rcases ih (x - 1) with h | h
        · exact Or.inl h
        · exact Or.inr (by omega)
  have h := this 40 19
  unfold bx
  rcases h with h | h
  · exact Or.inl h
  · exact Or.inr (by omega)
theorem sh1 (z : Int) (hz : -100 ≤ z ∧ z ≤ 100) : iI z >>> ((1 : Int32) &&& 31) = iI (z / 2) := by
  rw [← Int32.toInt_inj, pk_shr (iI z) ((1 : Int32) &&& 31) 1 (by decide), toInt_iI (by omega) (by omega), toInt_iI (by omega) (by omega)]
  rw [Int.shiftRight_eq_div_pow]
  rfl
/-- the class halves the span -/
theorem to_28 {o : Nat → Int32} {np : Nat} {k : Int} {Q : Int32 → Prop} (hn : np ≤ 5) (hw : ∀ k, k < np → okW (o k)) (hk : 0 ≤ k ∧ k ≤ 100) (hq : Q (iI (bx o np k))) :
    ∀ (d : Nat) (lo hi : Int), d ≤ 40 → -20 ≤ lo → lo < hi → hi ≤ 20 → hi - lo ≤ (d : Int) → k < (cnt o np lo : Int) → ¬ k < (cnt o np hi : Int) → f_To_boxOf_28 o Q (d + 1) (iI np) (iI k) (iI lo) (iI hi) (iI (40 - (d : Int))) := by
  intro d
  induction d with
  | zero => intro lo hi _ _ h1 _ h2; omega
  | succ d ih =>
    intro lo hi hd h1 h2 h3 h4 c1 c2
    unfold f_To_boxOf_28
    rw [iI_sub, iI_add, sh1 _ (by omega)]
    refine b_le (a := 40) (fun q => by omega) (fun _ => b_le (b := 1) (fun q => ?_) (fun q => ?_))
    · have : bx o np k = lo := bx_at hw (by omega) c1 (by rw [show lo + 1 = hi by omega]; exact c2)
      rw [this] at hq
      exact hq
    · refine to_count (by omega) hn hw ?_
      have e : iI (40 - ((d + 1 : Nat) : Int)) + (1 : Int32) = iI (40 - (d : Int)) := by rw [show (1 : Int32) = iI 1 from rfl, iI_add]; congr 1; omega
      rw [e]
      have hc : cnt o np ((lo + hi) / 2) ≤ np := cN_le _ _ _ _ _
      refine b_le (fun g => ?_) (fun g => ?_)
      · exact ih lo ((lo + hi) / 2) (by omega) h1 (by omega) (by omega) (by omega) c1 (by omega)
      · exact ih ((lo + hi) / 2) hi (by omega) (by omega) (by omega) h3 (by omega) (by omega) c2
theorem to_boxOf {o : Nat → Int32} {np : Nat} {k : Int} {Q : Int32 → Prop} (hn : np ≤ 5) (hw : ∀ k, k < np → okW (o k)) (hk : -2147483648 ≤ k ∧ k < 2147483648) (hq : 0 ≤ k → Q (iI (bx o np k))) (hq0 : k < 0 → Q (-100 : Int32)) : f_To_boxOf (iI np) (iI k) o Q := by
  unfold f_To_boxOf
  refine b_lt (b := 0) (fun q => hq0 q) (fun q => ?_)
  have em : (-20 : Int32) = iI (-20) := by decide
  have eh : (-100 : Int32) = iI (-100) := by decide
  rw [em]
  refine to_count (by omega) hn hw ?_
  have hc : cnt o np (-20) ≤ np := cN_le _ _ _ _ _
  refine b_lt (fun g => ⟨41, ?_⟩) (fun g => ?_)
  · refine to_28 hn hw (by omega) (hq (by omega)) 40 (-20) 20 (by omega) (by omega) (by omega) (by omega) (by omega) (by omega) ?_
    rw [cnt_20 hw]; omega
  · rw [eh, ← bx_no hw (k := k) (by omega)]
    exact hq (by omega)
/-- the model looks from above -/
theorem md_boxOf {m : Ob} {np : Nat} {k : Int} {Q : Int32 → Prop} (hp : gI m 0 = iI np) (hn : np ≤ 5) (hw : ∀ k, k < np → okW (gA m 38 k)) (hk : 0 ≤ k ∧ k ≤ 100) (hq : Q (iI (bx (gA m 38) np k))) : f_Md_boxOf (iI k) m Q := by
  have step : ∀ (d : Nat) (x : Int), x = (d : Int) - 21 → d ≤ 40 → Q (iI (bxF (cnt (gA m 38) np) k d x)) → f_Md_boxOf_3 m Q (d + 1) (iI k) (iI x) := by
    intro d
    induction d with
    | zero =>
      intro x hx _ hq
      unfold f_Md_boxOf_3
      rw [show (-20 : Int32) = iI (-20) by decide]
      exact b_lt (fun _ => hq) (fun q => by omega)
    | succ d ih =>
      intro x hx hd hq
      unfold f_Md_boxOf_3
      rw [show (-20 : Int32) = iI (-20) by decide]
      refine b_lt (fun q => by omega) (fun _ => md_above hp (by omega) hn hw ?_)
      have hc : cnt (gA m 38) np x ≤ np := cN_le _ _ _ _ _
      have e : iI x + (-1 : Int32) = iI (x - 1) := by rw [show (-1 : Int32) = iI (-1) by decide, iI_add]; rfl
      rw [e]
      simp only [bxF] at hq
      refine b_le (fun g => ?_) (fun g => ?_)
      · rw [if_neg (by omega)] at hq
        exact ih (x - 1) (by omega) (by omega) hq
      · rw [if_pos (by omega)] at hq
        exact hq
  unfold f_Md_boxOf
  exact ⟨41, step 40 19 (by omega) (by omega) hq⟩
