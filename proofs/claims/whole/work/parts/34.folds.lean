-- the folds' step, as numbers
def fp (b st w g p : Int) : Int := max (-9) (min 9 (p + (b - (st * g).tdiv 10).tdiv w))
def fgN (b st w g p : Int) : Int := if g + fp b st w g p < 0 then 0 else if 50 < g + fp b st w g p then 50 else g + fp b st w g p
def fpN (b st w g p : Int) : Int := if g + fp b st w g p < 0 then (-fp b st w g p).tdiv 2 else if 50 < g + fp b st w g p then 0 else fp b st w g p
def fhN (b st w g p : Int) : Int := if g + fp b st w g p < 0 then -fp b st w g p else 0
def fmN (b st w g p : Int) : Int := if g + fp b st w g p < 0 then 1 else 0
theorem tdiv_bd {a b : Int} (hb : 0 < b) (B : Nat) (h : a.natAbs ≤ B) : (a.tdiv b).natAbs ≤ B := by
  have h1 : (a.tdiv b).natAbs ≤ a.natAbs := by
    rw [Int.natAbs_tdiv]
    exact Nat.div_le_self _ _
  omega
theorem fp_bd (b st w g p : Int) : -9 ≤ fp b st w g p ∧ fp b st w g p ≤ 9 := by
  unfold fp; omega
theorem fg_bd (b st w g p : Int) : 0 ≤ fgN b st w g p ∧ fgN b st w g p ≤ 50 := by
  unfold fgN; split <;> (try split) <;> omega
theorem fpn_bd (b st w g p : Int) : -9 ≤ fpN b st w g p ∧ fpN b st w g p ≤ 9 := by
  have h := fp_bd b st w g p
  have h2 := tdiv_bd (a := -fp b st w g p) (b := 2) (by decide) 9 (by omega)
  unfold fpN; split <;> (try split) <;> omega
theorem fh_bd (b st w g p : Int) : 0 ≤ fhN b st w g p + 9 ∧ fhN b st w g p ≤ 9 := by
  have h := fp_bd b st w g p
  unfold fhN; split <;> omega
theorem iI_min9 {a : Int} (ha : -2147483648 ≤ a ∧ a < 2147483648) : (if iI a < (9 : Int32) then iI a else (9 : Int32)) = iI (min 9 a) := by
  have : ((9 : Int32)) = iI 9 := rfl
  rw [this]
  by_cases h : a < 9
  · rw [if_pos ((iI_lt ha (by omega)).mpr h)]; congr 1; omega
  · rw [if_neg (fun q => h ((iI_lt ha (by omega)).mp q))]; congr 1; omega
theorem iI_maxm9 {a : Int} (ha : -2147483648 ≤ a ∧ a < 2147483648) : (if (-9 : Int32) < iI a then iI a else (-9 : Int32)) = iI (max (-9) a) := by
  have : ((-9 : Int32)) = iI (-9) := by decide
  rw [this]
  by_cases h : -9 < a
  · rw [if_pos ((iI_lt (by omega) ha).mpr h)]; congr 1; omega
  · rw [if_neg (fun q => h ((iI_lt (by omega) ha).mp q))]; congr 1; omega
/-- the numbers that stand in a fold step -/
theorem f_core {b st w g p : Int} (hb : 0 ≤ b ∧ b ≤ 40) (hs : 1 ≤ st ∧ st ≤ 20) (hw : 1 ≤ w ∧ w ≤ 20) (hg : 0 ≤ g ∧ g ≤ 50) (hp : -9 ≤ p ∧ p ≤ 9) :
    iI b - (iI st * iI g) / (10 : Int32) = iI (b - (st * g).tdiv 10) ∧ iI p + (iI (b - (st * g).tdiv 10)) / iI w = iI (p + (b - (st * g).tdiv 10).tdiv w) ∧ (-200 ≤ p + (b - (st * g).tdiv 10).tdiv w ∧ p + (b - (st * g).tdiv 10).tdiv w ≤ 200) := by
  have h0 : 0 ≤ st * g := Int.mul_nonneg (by omega) (by omega)
  have h1 : st * g ≤ 20 * 50 := Int.mul_le_mul (by omega) (by omega) (by omega) (by omega)
  have h2 := tdiv_bd (a := st * g) (b := 10) (by decide) 1000 (by omega)
  have h3 : (iI st * iI g) / (10 : Int32) = iI ((st * g).tdiv 10) := by
    rw [iI_mul]
    exact iI_div (b := 10) (by omega) (by omega)
  have h4 : ((st * g).tdiv 10).natAbs ≤ 100 := by
    rw [Int.natAbs_tdiv]
    have : (st * g).natAbs ≤ 1000 := by omega
    show (st * g).natAbs / 10 ≤ 100
    omega
  have h5 := tdiv_bd (a := b - (st * g).tdiv 10) (b := w) (by omega) 150 (by omega)
  refine ⟨by rw [h3]; exact iI_sub _ _, ?_, by omega⟩
  rw [iI_div (by omega) (by omega), iI_add]
theorem fo_pass {o : Ob} {b st w g p : Int} {Q : Ob → Prop} (hb : 0 ≤ b ∧ b ≤ 40) (hs : 1 ≤ st ∧ st ≤ 20) (hw : 1 ≤ w ∧ w ≤ 20) (hg : 0 ≤ g ∧ g ≤ 50) (hp : -9 ≤ p ∧ p ≤ 9)
    (e0 : gI o 0 = iI g) (e1 : gI o 1 = iI p) (e2 : gI o 2 = iI b) (e3 : gI o 3 = iI st) (e4 : gI o 4 = iI w)
    (h : ∀ u : Ob, gI u 0 = iI (fgN b st w g p) → gI u 1 = iI (fpN b st w g p) → gI u 2 = iI b → gI u 3 = iI st → gI u 4 = iI w → gI u 5 = gI o 5 + iI (fhN b st w g p) → gI u 6 = gI o 6 + iI (fmN b st w g p) → Q u) : f_Fo_pass o Q := by
  obtain ⟨c1, c2, c3⟩ := f_core hb hs hw hg hp
  have bd := fp_bd b st w g p
  unfold f_Fo_pass
  rw [e0, e1, e2, e3, e4, c1]
  refine b_le (a := 1) (fun _ => ?_) (fun q => by omega)
  refine k_n ⟨fun q => ?_, ?_⟩
  · have := (iI_eq (b := 0) (by omega) (by omega)).mp q
    omega
  rw [c2]
  refine k_n ?_
  rw [iI_min9 (by omega)]
  refine k_n ?_
  rw [iI_maxm9 (by omega)]
  have ef : max (-9) (min 9 (p + (b - (st * g).tdiv 10).tdiv w)) = fp b st w g p := rfl
  rw [ef, iI_add]
  refine b_le (a := 0) (fun q => b_le (b := 50) (fun r => ?_) (fun r => ?_)) (fun q => ?_)
  · refine h _ ?_ ?_ e2 e3 e4 ?_ ?_
    · show iI _ = _
      unfold fgN; rw [if_neg (by omega), if_neg (by omega)]
    · show iI _ = _
      unfold fpN; rw [if_neg (by omega), if_neg (by omega)]
    · show gI o 5 = _
      unfold fhN; rw [if_neg (by omega)]; exact (Int32.add_zero _).symm
    · show gI o 6 = _
      unfold fmN; rw [if_neg (by omega)]; exact (Int32.add_zero _).symm
  · refine h _ ?_ ?_ e2 e3 e4 ?_ ?_
    · show (50 : Int32) = _
      unfold fgN; rw [if_neg (by omega), if_pos (by omega)]; rfl
    · show (0 : Int32) = _
      unfold fpN; rw [if_neg (by omega), if_pos (by omega)]; rfl
    · show gI o 5 = _
      unfold fhN; rw [if_neg (by omega)]; exact (Int32.add_zero _).symm
    · show gI o 6 = _
      unfold fmN; rw [if_neg (by omega)]; exact (Int32.add_zero _).symm
  · refine h _ ?_ ?_ e2 e3 e4 ?_ ?_
    · show (0 : Int32) = _
      unfold fgN; rw [if_pos (by omega)]; rfl
    · show (-iI _) / (2 : Int32) = _
      rw [iI_neg]
      unfold fpN; rw [if_pos (by omega)]
      exact iI_div (b := 2) (by omega) (by omega)
    · show gI o 5 - iI _ = _
      unfold fhN; rw [if_pos (by omega), ← iI_neg, Int32.sub_eq_add_neg]
    · show gI o 6 + (1 : Int32) = _
      unfold fmN; rw [if_pos (by omega)]; rfl
/-- what a fold step leaves as it is of the model -/
def mdF (m u : Ob) : Prop := (∀ k, k ≠ 24 → k ≠ 25 → k ≠ 26 → k ≠ 27 → gI u k = gI m k) ∧ gL u = gL m ∧ gA u = gA m ∧ gB u = gB m
theorem mdF.rf (m : Ob) : mdF m m := ⟨fun _ _ _ _ _ => rfl, rfl, rfl, rfl⟩
theorem mdF.si {m u : Ob} (h : mdF m u) (k : Nat) (v : Int32) (hk : k = 24 ∨ k = 25 ∨ k = 26 ∨ k = 27) : mdF m (sI u k v) := by
  refine ⟨fun j h1 h2 h3 h4 => ?_, h.2.1, h.2.2.1, h.2.2.2⟩
  rw [gI_sI_ne _ _ _ _ (by omega)]
  exact h.1 j h1 h2 h3 h4
set_option maxHeartbeats 1000000 in
theorem md_foldStep {m : Ob} {b st w g p : Int} {Q : Ob → Prop} (hb : 0 ≤ b ∧ b ≤ 40) (hs : 1 ≤ st ∧ st ≤ 20) (hw : 1 ≤ w ∧ w ≤ 20) (hg : 0 ≤ g ∧ g ≤ 50) (hp : -9 ≤ p ∧ p ≤ 9)
    (e0 : gI m 24 = iI g) (e1 : gI m 25 = iI p) (e3 : gA m 1 5 = iI st) (e4 : gA m 1 6 = iI w)
    (h : ∀ u : Ob, mdF m u → gI u 24 = iI (fgN b st w g p) → gI u 25 = iI (fpN b st w g p) → gI u 26 = iI (fhN b st w g p) → gI u 27 = iI (fmN b st w g p) → Q u) : f_Md_foldStep (iI b) m Q := by
  obtain ⟨c1, c2, c3⟩ := f_core hb hs hw hg hp
  have bd := fp_bd b st w g p
  have bt := tdiv_bd (a := -fp b st w g p) (b := 2) (by decide) 9 (by omega)
  -- from the clamped pace on
  have s104 : ∀ u : Ob, mdF m u → gI u 24 = iI g → gI u 25 = iI (fp b st w g p) → gI u 26 = iI (fhN b st w g p) → gI u 27 = iI (fmN b st w g p) → f_Md_foldStep_104 Q u := by
    intro u hu u4 u5 u6 u7
    unfold f_Md_foldStep_104
    rw [u4, u5, iI_add]
    refine b_le (a := 0) (fun q => b_le (b := 50) (fun r => ?_) (fun r => ?_)) (fun q => ?_)
    · refine h _ (hu.si _ _ (by omega)) ?_ ?_ u6 u7
      · show iI _ = _
        unfold fgN; rw [if_neg (by omega), if_neg (by omega)]
      · show gI u 25 = _
        rw [u5]; unfold fpN; rw [if_neg (by omega), if_neg (by omega)]
    · refine h _ ((hu.si _ _ (by omega)).si _ _ (by omega)) ?_ ?_ u6 u7
      · show (50 : Int32) = _
        unfold fgN; rw [if_neg (by omega), if_pos (by omega)]; rfl
      · show (0 : Int32) = _
        unfold fpN; rw [if_neg (by omega), if_pos (by omega)]; rfl
    · refine h _ ((hu.si _ _ (by omega)).si _ _ (by omega)) ?_ ?_ u6 u7
      · show (0 : Int32) = _
        unfold fgN; rw [if_pos (by omega)]; rfl
      · show (-iI _) / (2 : Int32) = _
        rw [iI_neg]
        unfold fpN; rw [if_pos (by omega)]
        exact iI_div (b := 2) (by omega) (by omega)
  have s84 : ∀ u : Ob, mdF m u → gI u 24 = iI g → gI u 25 = iI (fp b st w g p) → gI u 27 = iI (fmN b st w g p) → f_Md_foldStep_84 Q u := by
    intro u hu u4 u5 u7
    unfold f_Md_foldStep_84
    rw [u7]
    refine b_eq (b := 0) (fun q => ?_) (fun q => ?_) (by unfold fmN; split <;> omega) (by omega)
    · refine s104 _ (hu.si _ _ (by omega)) u4 u5 ?_ u7
      show (0 : Int32) = _
      unfold fmN at q; unfold fhN
      split at q
      · omega
      · rw [if_neg (by assumption)]; rfl
    · refine s104 _ (hu.si _ _ (by omega)) u4 u5 ?_ u7
      show -gI u 25 = _
      rw [u5, iI_neg]
      unfold fmN at q; unfold fhN
      split at q
      · rw [if_pos (by assumption)]
      · omega
  have s63 : ∀ u : Ob, mdF m u → gI u 24 = iI g → gI u 25 = iI (fp b st w g p) → f_Md_foldStep_63 Q u := by
    intro u hu u4 u5
    unfold f_Md_foldStep_63
    rw [u4, u5, iI_add]
    refine b_le (a := 0) (fun q => ?_) (fun q => ?_)
    · refine s84 _ (hu.si _ _ (by omega)) u4 u5 ?_
      show (0 : Int32) = _
      unfold fmN; rw [if_neg (by omega)]; rfl
    · refine s84 _ (hu.si _ _ (by omega)) u4 u5 ?_
      show (1 : Int32) = _
      unfold fmN; rw [if_pos (by omega)]; rfl
  have s48 : ∀ (u : Ob) (z : Int), -200 ≤ z ∧ z ≤ 9 → max (-9) z = fp b st w g p → mdF m u → gI u 24 = iI g → gI u 25 = iI z → f_Md_foldStep_48 Q u := by
    intro u z hz ez hu u4 u5
    unfold f_Md_foldStep_48
    rw [u5]
    have em : ((-9 : Int32)) = iI (-9) := by decide
    rw [em]
    refine b_le (fun q => ?_) (fun q => ?_)
    · exact s63 _ hu u4 (by rw [u5]; congr 1; omega)
    · refine s63 _ (hu.si _ _ (by omega)) u4 ?_
      show iI (-9) = _
      congr 1; omega
  unfold f_Md_foldStep
  rw [e0, e1, e3, e4, c1]
  refine k_n ⟨fun q => ?_, ?_⟩
  · have := (iI_eq (b := 0) (by omega) (by omega)).mp q
    omega
  rw [c2]
  refine b_le (b := 9) (fun q => ?_) (fun q => ?_)
  · exact s48 _ _ (by omega) (by unfold fp; omega) ((mdF.rf m).si _ _ (by omega)) e0 rfl
  · exact s48 _ 9 (by omega) (by unfold fp; omega) ((mdF.rf m).si _ _ (by omega)) e0 rfl
