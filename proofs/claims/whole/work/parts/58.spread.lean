-- shapes' numbers, digit by digit
section DG
variable {np : Nat} {n : Nat → Nat}
abbrev TN (n : Nat → Nat) (np p : Nat) : Nat := TT (szN n) np p
theorem TN_st {p : Nat} (h : p < np) : TN n np p = szN n p * TN n np (p + 1) := TT_st _ h
/-- a number by its block, its digit and the rest -/
theorem k_split (hok : okS np n) {p : Nat} (hp : p < np) (k : Nat) : k = k / TN n np p * TN n np p + dg (szN n) np p k * TN n np (p + 1) + k % TN n np (p + 1) ∧ dg (szN n) np p k < szN n p ∧ k % TN n np (p + 1) < TN n np (p + 1) := by
  have hs := okS_pos hok p hp
  have ht := TT_pos (okS_pos hok) (np - (p + 1)) (p + 1) (by omega)
  refine ⟨?_, dg_lt k hs, Nat.mod_lt _ ht⟩
  have h1 := Nat.div_add_mod k (TN n np (p + 1))
  have h2 := Nat.div_add_mod (k / TN n np (p + 1)) (szN n p)
  have h3 : k / TN n np p = k / TN n np (p + 1) / szN n p := by rw [TN_st hp, Nat.mul_comm, Nat.div_div_eq_div_mul]
  have h4 : k / TN n np p * TN n np p = szN n p * (k / TN n np (p + 1) / szN n p) * TN n np (p + 1) := by rw [h3, TN_st hp]; ac_rfl
  rw [h4]
  unfold dg
  rw [← Nat.add_mul, h2]
  rw [Nat.mul_comm] at h1
  exact h1.symm
theorem in_T {p b g i : Nat} (hok : okS np n) (hp : p < np) (hg : g < szN n p) (hi : i < TN n np (p + 1)) : g * TN n np (p + 1) + i < TN n np p := by
  rw [TN_st hp]
  have := Nat.mul_le_mul_right (TN n np (p + 1)) (show g + 1 ≤ szN n p from hg)
  rw [Nat.succ_mul] at this
  omega
theorem p_blk {p b g i : Nat} (hok : okS np n) (hp : p < np) (hg : g < szN n p) (hi : i < TN n np (p + 1)) : (b * TN n np p + g * TN n np (p + 1) + i) / TN n np p = b ∧ (b * TN n np p + g * TN n np (p + 1) + i) % TN n np p = g * TN n np (p + 1) + i ∧ dg (szN n) np p (b * TN n np p + g * TN n np (p + 1) + i) = g ∧ (b * TN n np p + g * TN n np (p + 1) + i) % TN n np (p + 1) = i := by
  have h1 := in_T (b := b) hok hp hg hi
  have h0 : 0 < TN n np p := TT_pos (okS_pos hok) (np - p) p (by omega)
  have e : b * TN n np p + g * TN n np (p + 1) + i = (g * TN n np (p + 1) + i) + TN n np p * b := by rw [Nat.mul_comm (TN n np p) b]; omega
  refine ⟨?_, ?_, ?_, ?_⟩
  · rw [e, Nat.add_mul_div_left _ _ h0, Nat.div_eq_of_lt h1, Nat.zero_add]
  · rw [e, Nat.add_mul_mod_self_left, Nat.mod_eq_of_lt h1]
  · rw [show b * TN n np p + g * TN n np (p + 1) + i = b * TN n np p + (g * TN n np (p + 1) + i) by omega, dg_add (okS_pos hok) (Nat.le_refl p) hp, dg_top (okS_pos hok) hp hg hi]
  · have e2 : b * TN n np p + g * TN n np (p + 1) + i = i + TN n np (p + 1) * (b * szN n p + g) := by
      rw [TN_st hp, Nat.mul_add]
      have h : b * (szN n p * TN n np (p + 1)) = TN n np (p + 1) * (b * szN n p) := by ac_rfl
      rw [h, Nat.mul_comm (TN n np (p + 1)) g]
      omega
    rw [e2, Nat.add_mul_mod_self_left, Nat.mod_eq_of_lt hi]
/-- other digits stay -/
theorem p_oth {p q b g g' i : Nat} (hok : okS np n) (hp : p < np) (hq : q < np) (hpq : q ≠ p) (hg : g < szN n p) (hg' : g' < szN n p) (hi : i < TN n np (p + 1)) : dg (szN n) np q (b * TN n np p + g * TN n np (p + 1) + i) = dg (szN n) np q (b * TN n np p + g' * TN n np (p + 1) + i) := by
  rcases Nat.lt_or_gt_of_ne hpq with h | h
  · unfold dg
    obtain ⟨c, hc⟩ := TT_dvd (s := szN n) (np := np) (j := p) (p - (q + 1)) (q + 1) (by omega) (by omega)
    have e : TT (szN n) np (q + 1) = TN n np p * c := hc
    rw [e, ← Nat.div_div_eq_div_mul, ← Nat.div_div_eq_div_mul, (p_blk (b := b) hok hp hg hi).1, (p_blk (b := b) hok hp hg' hi).1]
  · have e : ∀ g, b * TN n np p + g * TN n np (p + 1) + i = (b * szN n p + g) * TN n np (p + 1) + i := fun g => by
      rw [Nat.add_mul, TN_st hp]
      have : b * (szN n p * TN n np (p + 1)) = b * szN n p * TN n np (p + 1) := by ac_rfl
      omega
    rw [e g, e g', dg_add (okS_pos hok) (show p + 1 ≤ q by omega) hq, dg_add (okS_pos hok) (show p + 1 ≤ q by omega) hq]
end DG
theorem dS_one {a a' b : Nat → Int32} {p : Nat} : ∀ i, (∀ q, q < i → q ≠ p → a q = a' q) → (i ≤ p → dS a b i = dS a' b i) ∧ (p < i → dS a b i + (wZ a' p - wZ b p).natAbs = dS a' b i + (wZ a p - wZ b p).natAbs) := by
  intro i
  induction i with
  | zero => intro _; exact ⟨fun _ => rfl, fun h => absurd h (Nat.not_lt_zero _)⟩
  | succ i ih =>
    intro h
    obtain ⟨h1, h2⟩ := ih (fun q hq hp => h q (by omega) hp)
    refine ⟨fun hi => ?_, fun hi => ?_⟩
    · show dS a b i + (wZ a i - wZ b i).natAbs = dS a' b i + (wZ a' i - wZ b i).natAbs
      have : wZ a i = wZ a' i := by unfold wZ; rw [h i (by omega) (by omega)]
      rw [h1 (by omega), this]
    · show dS a b i + (wZ a i - wZ b i).natAbs + _ = dS a' b i + (wZ a' i - wZ b i).natAbs + _
      by_cases hip : i = p
      · subst hip
        rw [h1 (Nat.le_refl _)]
        omega
      · have e : wZ a i = wZ a' i := by unfold wZ; rw [h i (by omega) hip]
        have := h2 (by omega)
        rw [e]
        omega
theorem dS_comm (a b : Nat → Int32) : ∀ i, dS a b i = dS b a i := by
  intro i
  induction i with
  | zero => rfl
  | succ i ih =>
    show dS a b i + (wZ a i - wZ b i).natAbs = dS b a i + (wZ b i - wZ a i).natAbs
    rw [ih]
    omega
theorem dS_self (a : Nat → Int32) : ∀ i, dS a a i = 0 := by
  intro i
  induction i with
  | zero => rfl
  | succ i ih =>
    show dS a a i + (wZ a i - wZ a i).natAbs = 0
    rw [ih]
    omega
section SP
variable {np : Nat} {n : Nat → Nat}
/-- the way from shape to shape -/
abbrev dk (n : Nat → Nat) (np k j : Nat) : Nat := dS (shp n np k) (shp n np j) np
abbrev ad (n : Nat → Nat) (p g g' : Nat) : Nat := (((chN (n p) g : Nat) : Int) - ((chN (n p) g' : Nat) : Int)).natAbs
theorem wZ_shp (hok : okS np n) {p k : Nat} (hp : p < np) : wZ (shp n np k) p = ((chN (n p) (dg (szN n) np p k) : Nat) : Int) := by
  have := chN_bd (n := n p) (g := dg (szN n) np p k) (dg_lt k (okS_pos hok p hp))
  show (iI _).toInt = _
  exact toInt_iI (by omega) (by omega)
/-- two shapes on a line -/
theorem dk_line (hok : okS np n) {p b g g' i j : Nat} (hp : p < np) (hg : g < szN n p) (hg' : g' < szN n p) (hi : i < TN n np (p + 1)) : dk n np (b * TN n np p + g * TN n np (p + 1) + i) j + ad n p g' (dg (szN n) np p j) = dk n np (b * TN n np p + g' * TN n np (p + 1) + i) j + ad n p g (dg (szN n) np p j) := by
  have h := (dS_one (a := shp n np (b * TN n np p + g * TN n np (p + 1) + i)) (a' := shp n np (b * TN n np p + g' * TN n np (p + 1) + i)) (b := shp n np j) (p := p) np (fun q hq hqp => by
    unfold shp
    rw [p_oth (b := b) hok hp hq hqp hg hg' hi])).2 hp
  rw [wZ_shp hok hp, wZ_shp hok hp, wZ_shp hok hp, (p_blk (b := b) hok hp hg hi).2.2.1, (p_blk (b := b) hok hp hg' hi).2.2.1] at h
  exact h
/-- never below a way from some shape -/
def LL (n : Nat → Nat) (np : Nat) (c0 c : Nat → Nat) : Prop := ∀ k, k < TN n np 0 → ∃ j, j < TN n np 0 ∧ c0 j + dk n np k j ≤ c k
/-- one lowering -/
def lowC (c : Nat → Nat) (at_ to fr st far : Nat) : Nat → Nat := fun k => if at_ + to * st ≤ k ∧ k < at_ + to * st + st then min (c k) (c (k + fr * st - to * st) + far) else c k
theorem lowC_at {c : Nat → Nat} {at_ to fr st far i : Nat} (hi : i < st) : lowC c at_ to fr st far (at_ + to * st + i) = min (c (at_ + to * st + i)) (c (at_ + fr * st + i) + far) := by
  unfold lowC
  rw [if_pos (by omega), show at_ + to * st + i + fr * st - to * st = at_ + fr * st + i by omega]
theorem lowC_le (c : Nat → Nat) (at_ to fr st far k : Nat) : lowC c at_ to fr st far k ≤ c k := by
  unfold lowC
  split
  · exact Nat.min_le_left _ _
  · exact Nat.le_refl _
/-- lowering at a digit of a block -/
theorem lowC_oth (hok : okS np n) {c : Nat → Nat} {p b to fr far k : Nat} (hp : p < np) (hto : to < szN n p) (h : ¬ (k / TN n np p = b ∧ dg (szN n) np p k = to)) : lowC c (b * TN n np p) to fr (TN n np (p + 1)) far k = c k := by
  unfold lowC
  rw [if_neg]
  intro q
  obtain ⟨i, hi, rfl⟩ : ∃ i, i < TN n np (p + 1) ∧ k = b * TN n np p + to * TN n np (p + 1) + i := ⟨k - (b * TN n np p + to * TN n np (p + 1)), by omega, by omega⟩
  have := p_blk (b := b) hok hp hto hi
  exact h ⟨this.1, this.2.2.1⟩
theorem LL.low (hok : okS np n) {c0 c : Nat → Nat} {p b to fr : Nat} (hp : p < np) (hto : to < szN n p) (hfr : fr < szN n p) (h : LL n np c0 c) (hb : b * TN n np p + TN n np p ≤ TN n np 0) : LL n np c0 (lowC c (b * TN n np p) to fr (TN n np (p + 1)) (ad n p to fr)) := by
  intro k hk
  by_cases hd : k / TN n np p = b ∧ dg (szN n) np p k = to
  · obtain ⟨e, -, hi⟩ := k_split hok hp k
    rw [hd.1, hd.2] at e
    generalize k % TN n np (p + 1) = i at e hi
    subst e
    rw [lowC_at hi]
    have hin := in_T (b := b) hok hp hfr hi
    obtain ⟨j1, a1, a2⟩ := h _ hk
    obtain ⟨j2, b1, b2⟩ := h (b * TN n np p + fr * TN n np (p + 1) + i) (by omega)
    rcases Nat.le_total (c (b * TN n np p + to * TN n np (p + 1) + i)) (c (b * TN n np p + fr * TN n np (p + 1) + i) + ad n p to fr) with hm | hm
    · rw [Nat.min_eq_left hm]; exact ⟨j1, a1, a2⟩
    · rw [Nat.min_eq_right hm]
      refine ⟨j2, b1, ?_⟩
      have := dk_line (b := b) (j := j2) hok hp hto hfr hi
      simp only [ad] at this ⊢
      omega
  · rw [lowC_oth hok hp hto hd]; exact h k hk
end SP
