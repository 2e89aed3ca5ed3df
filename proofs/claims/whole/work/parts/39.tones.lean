-- longs
def iL (z : Int) : Int64 := Int64.ofInt z
theorem toInt_iL {z : Int} (h1 : -9223372036854775808 ≤ z) (h2 : z < 9223372036854775808) : (iL z).toInt = z := by
  unfold iL
  rw [Int64.toInt_ofInt, show Int64.size = 18446744073709551616 from rfl]
  exact Int.bmod_eq_of_le (by omega) (by omega)
theorem iL_add (a b : Int) : iL a + iL b = iL (a + b) := (Int64.ofInt_add a b).symm
theorem iL_sub (a b : Int) : iL a - iL b = iL (a - b) := (Int64.ofInt_sub a b).symm
theorem iL_mul (a b : Int) : iL a * iL b = iL (a * b) := (Int64.ofInt_mul a b).symm
theorem iI_toL {z : Int} (h1 : -2147483648 ≤ z) (h2 : z < 2147483648) : (iI z).toInt64 = iL z := by
  rw [← Int64.toInt_inj, Int32.toInt_toInt64, toInt_iI h1 h2, toInt_iL (by omega) (by omega)]
theorem cmp0 {z : Int} (h1 : -9223372036854775808 ≤ z) (h2 : z < 9223372036854775808) : lg_cmp (iL z) (0 : Int64) = if 0 < z then 1 else if z = 0 then 0 else -1 := by
  have e0 : (0 : Int64) = iL 0 := rfl
  have g : (iL z > (0 : Int64)) ↔ 0 < z := by
    rw [e0, gt_iff_lt, Int64.lt_iff_toInt_lt, toInt_iL h1 h2, toInt_iL (by omega) (by omega)]
  have q : (iL z = (0 : Int64)) ↔ z = 0 := by
    rw [e0, ← Int64.toInt_inj, toInt_iL h1 h2, toInt_iL (by omega) (by omega)]
  unfold lg_cmp
  simp only [g, q]
theorem mul_bd {a b A B : Int} (ha : -A ≤ a ∧ a ≤ A) (hb : -B ≤ b ∧ b ≤ B) : -(A * B) ≤ a * b ∧ a * b ≤ A * B := by
  have h1 : (a * b).natAbs = a.natAbs * b.natAbs := Int.natAbs_mul a b
  have h2 : a.natAbs * b.natAbs ≤ A.natAbs * B.natAbs := Nat.mul_le_mul (by omega) (by omega)
  have h3 : (A * B).natAbs = A.natAbs * B.natAbs := Int.natAbs_mul A B
  have h4 : 0 ≤ A * B := Int.mul_nonneg (by omega) (by omega)
  omega
def sg (b : Bool) : Int := if b then -1 else 1
def bI (b : Bool) : Int32 := if b then 1 else 0
theorem cN_le (w : Nat → Int) (x : Int) : ∀ (i : Nat) (R V : Int), cN w x i R V ≤ i := by
  intro i
  induction i with
  | zero => intro R V; simp [cN]
  | succ i ih =>
    intro R V
    simp only [cN]
    split
    · have := ih (-(20 * x * R - (400 - x * x) * V) * w (i - 1)) (-(20 * x * V + 400 * R) * w i); omega
    · have := ih ((20 * x * R - (400 - x * x) * V) * w (i - 1)) ((20 * x * V + 400 * R) * w i); omega
/-- the numbers of one step, and how far they go -/
theorem tn_step {x r v B : Int} (hx : -20 ≤ x ∧ x ≤ 20) (hr : -B ≤ r ∧ r ≤ B) (hv : -B ≤ v ∧ v ≤ B) : (-(800 * B) ≤ 20 * x * r - (400 - x * x) * v ∧ 20 * x * r - (400 - x * x) * v ≤ 800 * B) ∧ (-(800 * B) ≤ 20 * x * v + 400 * r ∧ 20 * x * v + 400 * r ≤ 800 * B) ∧ (0 ≤ x * x ∧ x * x ≤ 400) := by
  have h0 : 0 ≤ x * x := by
    rcases Int.le_total 0 x with h | h
    · exact Int.mul_nonneg h h
    · exact Int.mul_nonneg_of_nonpos_of_nonpos h h
  have h1 := mul_bd hx hx
  have h2 := mul_bd (a := 20 * x) (A := 400) (by omega) hr
  have h3 := mul_bd (a := 20 * x) (A := 400) (by omega) hv
  have h4 := mul_bd (a := 400 - x * x) (A := 400) (by omega) hv
  omega
theorem sg_cases (b : Bool) : sg b = 1 ∧ b = false ∨ sg b = -1 ∧ b = true := by cases b <;> simp [sg]
theorem cN_step (w : Nat → Int) (x : Int) (i : Nat) (b : Bool) (r v : Int) : cN w x (i + 1) (sg b * r) (sg b * v) = if sg b * (20 * x * v + 400 * r) < 0 then 1 + cN w x i (sg (!b) * ((20 * x * r - (400 - x * x) * v) * w (i - 1))) (sg (!b) * ((20 * x * v + 400 * r) * w i)) else cN w x i (sg b * ((20 * x * r - (400 - x * x) * v) * w (i - 1))) (sg b * ((20 * x * v + 400 * r) * w i)) := by
  have e1 : 20 * x * (sg b * v) + 400 * (sg b * r) = sg b * (20 * x * v + 400 * r) := by grind
  have e2 : 20 * x * (sg b * r) - (400 - x * x) * (sg b * v) = sg b * (20 * x * r - (400 - x * x) * v) := by grind
  have e3 : sg (!b) = -sg b := by cases b <;> simp [sg]
  simp only [cN]
  rw [e1, e2, e3]
  have e4 : ∀ p q : Int, -(sg b * p) * q = -sg b * (p * q) := by intro p q; grind
  have e5 : ∀ p q : Int, sg b * p * q = sg b * (p * q) := by intro p q; grind
  rw [e4, e4, e5, e5]
def wZ (o : Nat → Int32) (i : Nat) : Int := (o i).toInt
theorem wZ_ok {o : Nat → Int32} {i : Nat} (h : okW (o i)) : 1 ≤ wZ o i ∧ wZ o i ≤ 12 ∧ o i = iI (wZ o i) := by
  obtain ⟨w, h1, h2, e⟩ := h
  have : wZ o i = w := by unfold wZ; rw [e, toInt_iI (by omega) (by omega)]
  rw [this]
  exact ⟨by omega, by omega, e⟩
section TN
variable {o : Nat → Int32} {x : Int} {Q : Int32 → Prop}
/-- the class's loop: the join behind the test -/
theorem to_102 {K : Int64 → Int64 → Int64 → Int64 → Int32 → Int32 → Int32 → Prop} {i : Nat} {s f r v r' v' : Int} {xb xc : Int32} (hi : i < 5) (hw : ∀ k, k ≤ i → okW (o k)) (h0 : i = 0 → ∀ r v, K (iL s) (iL f) (iL r) (iL v) xb xc (iI (-1))) (h : i ≠ 0 → K (iL s) (iL f) (iL (r' * wZ o (i - 1))) (iL (v' * wZ o i)) xb xc (iI ((i : Int) - 1))) :
    f_To_countAbove_102 o K Q (iL s) (iL f) (iL r) (iL v) xb xc (iI i) (iL r') (iL v') := by
  unfold f_To_countAbove_102
  have em : iI (i : Int) + (-1 : Int32) = iI ((i : Int) - 1) := by rw [show (-1 : Int32) = iI (-1) by decide, iI_add]; rfl
  have es : iI (i : Int) - (1 : Int32) = iI ((i : Int) - 1) := iI_sub _ 1
  rw [em, es]
  refine b_le (b := 0) (fun q => ?_) (fun q => ?_)
  · have : i = 0 := by omega
    subst this
    exact h0 rfl _ _
  · have e1 : (iI ((i : Int) - 1)).toNatClampNeg = i - 1 := by rw [iI_cl (by omega) (by omega)]; omega
    have e2 : (iI (i : Int)).toNatClampNeg = i := cl_nat (by omega)
    obtain ⟨a1, a2, a3⟩ := wZ_ok (hw (i - 1) (by omega))
    obtain ⟨b1, b2, b3⟩ := wZ_ok (hw i (by omega))
    refine ⟨v_in (by omega) (by decide), ?_⟩
    rw [e1, e2, a3, iI_toL (by omega) (by omega), iL_mul]
    refine k_n ⟨v_nat hi (by decide), ?_⟩
    rw [b3, iI_toL (by omega) (by omega), iL_mul]
    exact h (by omega)
theorem to_33 (hx : -20 ≤ x ∧ x ≤ 20) : ∀ (d : Nat) (r v B : Int) (b : Bool) (c : Nat), d ≤ 5 → (∀ k, k < d → okW (o k)) → (-B ≤ r ∧ r ≤ B) → (-B ≤ v ∧ v ≤ B) → B * 9600 ^ (d - 1) * 800 < 9223372036854775808 → Q (iI ((c + cN (wZ o) x d (sg b * r) (sg b * v) : Nat) : Int)) → f_To_countAbove_33 o Q (d + 1) (iL (20 * x)) (iL (400 - x * x)) (iL r) (iL v) (bI b) (iI c) (iI ((d : Int) - 1)) := by
  intro d
  induction d with
  | zero =>
    intro r v B b c _ _ _ _ _ hq
    unfold f_To_countAbove_33
    exact b_lt (b := 0) (fun _ => hq) (fun q => by omega)
  | succ d ih =>
    intro r v B b c hd hw hr hv hB hq
    have hB0 : 0 ≤ B := by omega
    have hp : (1 : Int) ≤ 9600 ^ d := by
      have : (0 : Int) < 9600 ^ d := Int.pow_pos (by decide)
      omega
    have hB1 : B ≤ B * 9600 ^ d := by
      have := Int.mul_le_mul_of_nonneg_left hp hB0
      omega
    have hB2 : B * 9600 ^ d * 800 < 9223372036854775808 := by simpa using hB
    obtain ⟨s1, s2, s3⟩ := tn_step hx hr hv
    unfold f_To_countAbove_33
    have ei : iI (((d + 1 : Nat) : Int) - 1) = iI (d : Int) := by congr 1; omega
    have e1 : iL (20 * x) * iL v + (400 : Int64) * iL r = iL (20 * x * v + 400 * r) := by
      rw [show (400 : Int64) = iL 400 from rfl, iL_mul, iL_mul, iL_add]
    have e2 : iL (20 * x) * iL r - iL (400 - x * x) * iL v = iL (20 * x * r - (400 - x * x) * v) := by rw [iL_mul, iL_mul, iL_sub]
    rw [ei, e1, e2, cmp0 (by omega) (by omega)]
    -- the way on, with the sign b' and the count c'
    have go : ∀ (b' : Bool) (c' : Nat), (sg b * (20 * x * v + 400 * r) < 0 → b' = !b ∧ c' = c + 1) → (¬ sg b * (20 * x * v + 400 * r) < 0 → b' = b ∧ c' = c) → f_To_countAbove_102 o (f_To_countAbove_33 o Q (d + 1)) Q (iL (20 * x)) (iL (400 - x * x)) (iL r) (iL v) (bI b') (iI c') (iI d) (iL (20 * x * r - (400 - x * x) * v)) (iL (20 * x * v + 400 * r)) := by
      intro b' c' g1 g2
      have tot : c' + cN (wZ o) x d (sg b' * ((20 * x * r - (400 - x * x) * v) * wZ o (d - 1))) (sg b' * ((20 * x * v + 400 * r) * wZ o d)) = c + cN (wZ o) x (d + 1) (sg b * r) (sg b * v) := by
        rw [cN_step]
        by_cases hf : sg b * (20 * x * v + 400 * r) < 0
        · obtain ⟨h1, h2⟩ := g1 hf
          subst h1 h2
          rw [if_pos hf]; omega
        · obtain ⟨h1, h2⟩ := g2 hf
          subst h1 h2
          rw [if_neg hf]
      refine to_102 (by omega) (fun k hk => hw k (by omega)) (fun hd0 r2 v2 => ?_) (fun hd0 => ?_)
      · subst hd0
        unfold f_To_countAbove_33
        refine b_lt (b := 0) (fun _ => ?_) (fun q => by omega)
        rw [← tot] at hq
        simpa [cN] using hq
      · obtain ⟨a1, a2, a3⟩ := wZ_ok (hw (d - 1) (by omega))
        obtain ⟨b1, b2, b3⟩ := wZ_ok (hw d (by omega))
        have m1 := mul_bd (a := 20 * x * r - (400 - x * x) * v) (A := 800 * B) s1 (b := wZ o (d - 1)) (B := 12) (by omega)
        have m2 := mul_bd (a := 20 * x * v + 400 * r) (A := 800 * B) s2 (b := wZ o d) (B := 12) (by omega)
        refine ih _ _ (9600 * B) b' c' (by omega) (fun k hk => hw k (by omega)) (by omega) (by omega) ?_ ?_
        · have e : (9600 : Int) ^ d = 9600 ^ (d - 1) * 9600 := by
            obtain ⟨k, rfl⟩ : ∃ k, d = k + 1 := ⟨d - 1, by omega⟩
            simp [Int.pow_succ]
          rw [e] at hB2
          have : 9600 * B * 9600 ^ (d - 1) * 800 = B * (9600 ^ (d - 1) * 9600) * 800 := by grind
          rw [this]; exact hB2
        · rw [tot]; exact hq
    refine b_lt (b := 0) (fun q => by omega) (fun _ => ?_)
    have one : iI (c : Int) + (1 : Int32) = iI ((c + 1 : Nat) : Int) := ix_add c 1
    rw [one]
    by_cases hz : 20 * x * v + 400 * r = 0
    · have : (if 0 < 20 * x * v + 400 * r then (1 : Int32) else if 20 * x * v + 400 * r = 0 then 0 else -1) = 0 := by rw [if_neg (by omega), if_pos hz]
      rw [this]
      refine k_t rfl (go b c (fun q => ?_) (fun _ => ⟨rfl, rfl⟩))
      rw [hz] at q; simp at q
    · by_cases hpz : 0 < 20 * x * v + 400 * r
      · rw [if_pos hpz]
        refine k_f (by decide) (k_t (by decide) ?_)
        rcases sg_cases b with ⟨hs, hb⟩ | ⟨hs, hb⟩
        · subst hb
          exact k_t rfl (go false c (fun q => by rw [hs] at q; omega) (fun _ => ⟨rfl, rfl⟩))
        · subst hb
          exact k_f (by decide) (k_f (by decide) (go false (c + 1) (fun _ => ⟨rfl, rfl⟩) (fun q => by rw [hs] at q; omega)))
      · rw [if_neg hpz, if_neg hz]
        refine k_f (by decide) (k_f (by decide) ?_)
        rcases sg_cases b with ⟨hs, hb⟩ | ⟨hs, hb⟩
        · subst hb
          exact k_f (by decide) (k_t rfl (go true (c + 1) (fun _ => ⟨rfl, rfl⟩) (fun q => by rw [hs] at q; omega)))
        · subst hb
          exact k_t rfl (go true c (fun q => by rw [hs] at q; omega) (fun _ => ⟨rfl, rfl⟩))
/-- the count of tones above x of a shape -/
def cnt (o : Nat → Int32) (np : Nat) (x : Int) : Nat := cN (wZ o) x np 0 1
theorem to_count {np : Nat} (hx : -20 ≤ x ∧ x ≤ 20) (hn : np ≤ 5) (hw : ∀ k, k < np → okW (o k)) (hq : Q (iI (cnt o np x : Nat))) : f_To_countAbove (iI np) (iI x) o Q := by
  unfold f_To_countAbove
  have h0 := (tn_step (r := 0) (v := 0) (B := 0) hx (by omega) (by omega)).2.2
  have e1 : ((20 : Int32) * iI x).toInt64 = iL (20 * x) := by rw [show (20 : Int32) = iI 20 from rfl, iI_mul, iI_toL (by omega) (by omega)]
  have e2 : ((400 : Int32) - iI x * iI x).toInt64 = iL (400 - x * x) := by rw [show (400 : Int32) = iI 400 from rfl, iI_mul, iI_sub, iI_toL (by omega) (by omega)]
  have e3 : iI (np : Int) - (1 : Int32) = iI ((np : Int) - 1) := iI_sub _ 1
  rw [e1, e2, e3]
  refine ⟨np + 1, to_33 (b := false) (c := 0) hx np 0 1 1 hn hw (by omega) (by omega) ?_ ?_⟩
  · have hk : ∀ k : Nat, k < 5 → (9600 : Int) ^ k ≤ 8493465600000000 := by decide
    have := hk (np - 1) (by omega)
    omega
  · simpa [cnt, sg] using hq
end TN
