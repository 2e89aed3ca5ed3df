-- longs that are compared
theorem lgc (a b : Int64) : (a.toInt < b.toInt ∧ lg_cmp a b = -1) ∨ (a = b ∧ lg_cmp a b = 0) ∨ (b.toInt < a.toInt ∧ lg_cmp a b = 1) := by
  unfold lg_cmp
  rcases Int.lt_trichotomy a.toInt b.toInt with h | h | h
  · refine Or.inl ⟨h, ?_⟩
    rw [if_neg (fun q => by have := Int64.lt_iff_toInt_lt.mp q; omega), if_neg (fun q => by rw [q] at h; omega)]
  · have := Int64.toInt_inj.mp h
    refine Or.inr (Or.inl ⟨this, ?_⟩)
    rw [if_neg (fun q => by have := Int64.lt_iff_toInt_lt.mp q; omega), if_pos this]
  · refine Or.inr (Or.inr ⟨h, ?_⟩)
    rw [if_pos (Int64.lt_iff_toInt_lt.mpr h)]
theorem l_ge {a b : Int64} {A B : Prop} (f : b.toInt ≤ a.toInt → A) (g : a.toInt < b.toInt → B) : (0 ≤ lg_cmp a b → A) ∧ (¬ 0 ≤ lg_cmp a b → B) := by
  rcases lgc a b with ⟨h, e⟩ | ⟨h, e⟩ | ⟨h, e⟩
  · rw [e]; exact k_f (by decide) (g h)
  · rw [e]; exact k_t (by decide) (f (by rw [h]; omega))
  · rw [e]; exact k_t (by decide) (f (by omega))
theorem l_le {a b : Int64} {A B : Prop} (f : a.toInt ≤ b.toInt → A) (g : b.toInt < a.toInt → B) : (lg_cmp a b ≤ 0 → A) ∧ (¬ lg_cmp a b ≤ 0 → B) := by
  rcases lgc a b with ⟨h, e⟩ | ⟨h, e⟩ | ⟨h, e⟩
  · rw [e]; exact k_t (by decide) (f (by omega))
  · rw [e]; exact k_t (by decide) (f (by rw [h]; omega))
  · rw [e]; exact k_f (by decide) (g h)
theorem l_eq {a b : Int64} {A B : Prop} (f : a = b → A) (g : a ≠ b → B) : (lg_cmp a b = 0 → A) ∧ (¬ lg_cmp a b = 0 → B) := by
  rcases lgc a b with ⟨h, e⟩ | ⟨h, e⟩ | ⟨h, e⟩
  · rw [e]; exact k_f (by decide) (g (fun q => by rw [q] at h; omega))
  · rw [e]; exact k_t (by decide) (f h)
  · rw [e]; exact k_f (by decide) (g (fun q => by rw [q] at h; omega))
theorem iL_of (x : Int64) : iL x.toInt = x := by simp [iL]
theorem iL_ex (x : Int64) : ∃ z : Int, -9223372036854775808 ≤ z ∧ z < 9223372036854775808 ∧ x = iL z := by
  have h1 := Int64.le_toInt x
  have h2 := Int64.toInt_lt x
  exact ⟨x.toInt, by omega, by omega, (iL_of x).symm⟩
theorem xor_neg (a b : Int64) (hb : 0 ≤ b.toInt) : (a ^^^ b).toInt < 0 ↔ a.toInt < 0 := by
  have e : (a ^^^ b).toBitVec.msb = (a.toBitVec.msb ^^ b.toBitVec.msb) := by rw [Int64.toBitVec_xor, BitVec.msb_xor]
  rw [BitVec.msb_eq_toInt, BitVec.msb_eq_toInt, BitVec.msb_eq_toInt] at e
  have e1 : (a ^^^ b).toBitVec.toInt = (a ^^^ b).toInt := rfl
  have e2 : a.toBitVec.toInt = a.toInt := rfl
  have e3 : b.toBitVec.toInt = b.toInt := rfl
  rw [e1, e2, e3, decide_eq_false (show ¬ b.toInt < 0 by omega), Bool.xor_false] at e
  exact decide_eq_decide.mp e
theorem iL_div {a b : Int} (ha : -9223372036854775808 ≤ a ∧ a < 9223372036854775808) (hb : 1 < b ∧ b < 9223372036854775808) : iL a / iL b = iL (a.tdiv b) ∧ (-9223372036854775808 < a.tdiv b ∧ a.tdiv b < 9223372036854775808) := by
  have h1 : (a.tdiv b).natAbs ≤ a.natAbs / 2 := by
    rw [Int.natAbs_tdiv]
    exact Nat.div_le_div_left (by omega) (by omega)
  refine ⟨?_, by omega⟩
  rw [← Int64.toInt_inj, Int64.toInt_div, toInt_iL (by omega) (by omega), toInt_iL (by omega) (by omega), toInt_iL (by omega) (by omega)]
  exact Int.bmod_eq_of_le (by omega) (by omega)
/-- parted by a number: floorDiv and floorMod, and the model's part -/
theorem fl_part (d : Int64) (b : Int) (hb : 1 < b ∧ b ≤ 1000) : ∃ q r : Int64, (∀ Q : Int64 → Prop, Q q → f_Mt_floorDiv d (iL b) Q) ∧ (∀ Q : Int64 → Prop, Q r → f_Mt_floorMod d (iL b) Q) ∧ (∀ (o : Ob) (Q : Int64 → Ob → Prop), Q q (sL o 29 r) → f_Md_part d (iL b) o Q) := by
  obtain ⟨z, z1, z2, rfl⟩ := iL_ex d
  obtain ⟨eT, T1, T2⟩ := iL_div (a := z) (b := b) ⟨z1, z2⟩ (by omega)
  have hdm : b * z.tdiv b + z.tmod b = z := Int.mul_tdiv_add_tmod z b
  have hr : z.tmod b < b ∧ -b < z.tmod b := ⟨Int.tmod_lt_of_pos z (by omega), Int.lt_tmod_of_pos z (by omega)⟩
  have hp : 0 ≤ z → 0 ≤ z.tmod b := fun h => Int.tmod_nonneg b h
  have hn : z < 0 → z.tmod b ≤ 0 := fun h => by
    have := Int.tmod_nonneg b (show 0 ≤ -z by omega)
    rw [Int.neg_tmod] at this
    omega
  generalize hT : z.tdiv b = T at eT T1 T2 hdm
  generalize hρ : z.tmod b = ρ at hdm hr hp hn
  have hbT : iL T * iL b = iL (z - ρ) := by rw [iL_mul]; congr 1; rw [Int.mul_comm]; omega
  have hne : ¬ iL b = 0 := fun q => by
    have : (iL b).toInt = (iL 0).toInt := by rw [q]; rfl
    rw [toInt_iL (by omega) (by omega), toInt_iL (by omega) (by omega)] at this
    omega
  have tz : (iL z).toInt = z := toInt_iL z1 z2
  have tb : (iL b).toInt = b := toInt_iL (by omega) (by omega)
  have t0 : (0 : Int64).toInt = 0 := rfl
  have hx := xor_neg (iL z) (iL b) (by omega)
  have tq : (iL (z - ρ)).toInt = z - ρ := toInt_iL (by omega) (by omega)
  have es : iL z - iL (z - ρ) = iL ρ := by rw [iL_sub]; congr 1; omega
  have tρ : (iL ρ).toInt = ρ := toInt_iL (by omega) (by omega)
  by_cases hz : z < 0 ∧ ρ ≠ 0
  · refine ⟨iL T - 1, iL ρ + iL b, fun Q hq => ?_, fun Q hq => ?_, fun o Q hq => ?_⟩
    · unfold f_Mt_floorDiv
      rw [eT, hbT]
      refine ⟨hne, l_ge (fun q => by omega) (fun _ => l_eq (fun q => ?_) (fun _ => hq))⟩
      have : (iL (z - ρ)).toInt = (iL z).toInt := by rw [q]
      omega
    · unfold f_Mt_floorMod
      rw [eT, hbT, es]
      refine ⟨hne, l_ge (fun q => by omega) (fun _ => l_eq (fun q => ?_) (fun _ => hq))⟩
      have : (iL ρ).toInt = (0 : Int64).toInt := by rw [q]
      omega
    · unfold f_Md_part f_Md_part_20
      rw [eT, hbT]
      refine ⟨hne, l_le (fun q => by omega) (fun _ => ?_)⟩
      have e : iL z - (iL T - (1 : Int64)) * iL b = iL ρ + iL b := by
        rw [show (1 : Int64) = iL 1 from rfl, iL_sub, iL_mul, iL_sub, iL_add]
        congr 1
        have : (T - 1) * b = b * T - b := by rw [Int.sub_mul, Int.mul_comm]; omega
        omega
      rw [e]
      exact hq
  · refine ⟨iL T, iL ρ, fun Q hq => ?_, fun Q hq => ?_, fun o Q hq => ?_⟩
    · unfold f_Mt_floorDiv
      rw [eT, hbT]
      refine ⟨hne, l_ge (fun q => hq) (fun q => l_eq (fun _ => hq) (fun q' => absurd ?_ q'))⟩
      congr 1; omega
    · unfold f_Mt_floorMod
      rw [eT, hbT, es]
      refine ⟨hne, l_ge (fun q => hq) (fun q => l_eq (fun _ => hq) (fun q' => absurd ?_ q'))⟩
      rw [show (0 : Int64) = iL 0 from rfl]; congr 1; omega
    · unfold f_Md_part f_Md_part_20
      rw [eT, hbT, es]
      exact ⟨hne, l_le (fun q => hq) (fun q => by omega)⟩
/-- what is lost on the way -/
theorem pi_less {x : Int64} {l : Int32} {m : Ob} (hl : gA m 1 5601 = l) : ∃ y : Int64, (∀ Q : Int64 → Prop, Q y → f_Pi_weakened x l Q) ∧ (∀ u : Ob, gA u 1 5601 = l → ∀ Q : Int64 → Prop, Q y → f_Md_less x u Q) := by
  generalize he : x - x * l.toInt64 / (1000 : Int64) = v
  have n1 : (1000000000 : Int64).toInt = 1000000000 := by decide
  have n2 : (-1000000000 : Int64).toInt = -1000000000 := by decide
  refine ⟨if (1000000000 : Int64) < v then (1000000000 : Int64) else if v < (-1000000000 : Int64) then (-1000000000 : Int64) else v, fun Q hq => ?_, fun u hu Q hq => ?_⟩
  · unfold f_Pi_weakened
    rw [he]
    by_cases h1 : (1000000000 : Int64) < v
    · rw [if_pos h1] at hq
      have h2 : ¬ v < (1000000000 : Int64) := fun q => by
        have a1 := Int64.lt_iff_toInt_lt.mp q
        have a2 := Int64.lt_iff_toInt_lt.mp h1
        omega
      rw [if_neg h2]
      exact k_n (k_n (by rw [if_neg (by decide)]; exact hq))
    · rw [if_neg h1] at hq
      have h2 : (if v < (1000000000 : Int64) then v else (1000000000 : Int64)) = v := by
        by_cases h3 : v < (1000000000 : Int64)
        · rw [if_pos h3]
        · rw [if_neg h3]
          apply Int64.toInt_inj.mp
          have a1 : ¬ v.toInt < (1000000000 : Int64).toInt := fun q => h3 (Int64.lt_iff_toInt_lt.mpr q)
          have a2 : ¬ (1000000000 : Int64).toInt < v.toInt := fun q => h1 (Int64.lt_iff_toInt_lt.mpr q)
          omega
      rw [h2]
      exact k_n (k_n hq)
  · unfold f_Md_less
    rw [hu]
    refine k_n ?_
    rw [he]
    by_cases h1 : (1000000000 : Int64) < v
    · rw [if_pos h1] at hq
      have a2 := Int64.lt_iff_toInt_lt.mp h1
      exact l_le (fun q => by omega) (fun _ => hq)
    · rw [if_neg h1] at hq
      have a2 : ¬ (1000000000 : Int64).toInt < v.toInt := fun q => h1 (Int64.lt_iff_toInt_lt.mpr q)
      refine l_le (fun _ => l_ge (fun q => ?_) (fun q => ?_)) (fun q => by omega)
      · have : ¬ v < (-1000000000 : Int64) := fun h => by
          have := Int64.lt_iff_toInt_lt.mp h
          omega
        rw [if_neg this] at hq
        exact hq
      · rw [if_pos (Int64.lt_iff_toInt_lt.mpr q)] at hq
        exact hq
