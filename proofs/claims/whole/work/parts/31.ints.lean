-- whole numbers as Int32, and branches over them
def iI (z : Int) : Int32 := Int32.ofInt z
theorem iI_of (x : Int32) : iI x.toInt = x := by simp [iI]
theorem iI_ex (x : Int32) : ∃ z : Int, -2147483648 ≤ z ∧ z < 2147483648 ∧ x = iI z := by
  have h1 := Int32.le_toInt x
  have h2 := Int32.toInt_lt x
  exact ⟨x.toInt, by omega, by omega, (iI_of x).symm⟩
theorem toInt_iI {z : Int} (h1 : -2147483648 ≤ z) (h2 : z < 2147483648) : (iI z).toInt = z := by
  unfold iI
  rw [Int32.toInt_ofInt, show Int32.size = 4294967296 from rfl]
  exact Int.bmod_eq_of_le (by omega) (by omega)
theorem iI_add (a b : Int) : iI a + iI b = iI (a + b) := (Int32.ofInt_add a b).symm
theorem iI_sub (a b : Int) : iI a - iI b = iI (a - b) := (Int32.ofInt_sub a b).symm
theorem iI_mul (a b : Int) : iI a * iI b = iI (a * b) := (Int32.ofInt_mul a b).symm
theorem iI_neg (a : Int) : -iI a = iI (-a) := (Int32.ofInt_neg a).symm
theorem iI_lt {a b : Int} (ha : -2147483648 ≤ a ∧ a < 2147483648) (hb : -2147483648 ≤ b ∧ b < 2147483648) : iI a < iI b ↔ a < b := by
  rw [Int32.lt_iff_toInt_lt, toInt_iI ha.1 ha.2, toInt_iI hb.1 hb.2]
theorem iI_le {a b : Int} (ha : -2147483648 ≤ a ∧ a < 2147483648) (hb : -2147483648 ≤ b ∧ b < 2147483648) : iI a ≤ iI b ↔ a ≤ b := by
  rw [Int32.le_iff_toInt_le, toInt_iI ha.1 ha.2, toInt_iI hb.1 hb.2]
theorem iI_eq {a b : Int} (ha : -2147483648 ≤ a ∧ a < 2147483648) (hb : -2147483648 ≤ b ∧ b < 2147483648) : iI a = iI b ↔ a = b := by
  rw [← Int32.toInt_inj, toInt_iI ha.1 ha.2, toInt_iI hb.1 hb.2]
theorem iI_cl {z : Int} (h1 : 0 ≤ z) (h2 : z < 2147483648) : (iI z).toNatClampNeg = z.toNat := by
  have : (iI z).toNatClampNeg = (iI z).toInt.toNat := rfl
  rw [this, toInt_iI (by omega) h2]
theorem iI_div {a b : Int} (ha : -2147483648 < a ∧ a < 2147483648) (hb : 0 < b ∧ b < 2147483648) : iI a / iI b = iI (a.tdiv b) := by
  rw [← Int32.toInt_inj, Int32.toInt_div, toInt_iI (by omega) (by omega), toInt_iI (by omega) (by omega)]
  have h1 : (a.tdiv b).natAbs ≤ a.natAbs := by
    rw [Int.natAbs_tdiv]
    exact Nat.div_le_self _ _
  rw [toInt_iI (by omega) (by omega)]
  exact Int.bmod_eq_of_le (by omega) (by omega)
theorem iI_nI (n : Nat) : nI n = iI (n : Int) := rfl
theorem litP (n : Nat) : (OfNat.ofNat n : Int32) = iI (OfNat.ofNat n) := rfl
theorem v_in {z : Int} {n : Nat} (h : 0 ≤ z ∧ z < n) (hn : n < 2147483648) : vp_in (iI z) n := by
  intro q
  rcases q with q | q
  · have : iI z < iI 0 := q
    rw [iI_lt (by omega) (by omega)] at this
    omega
  · rw [iI_cl h.1 (by omega)] at q
    omega
theorem b_lt {a b : Int} {A B : Prop} (f : a < b → A) (g : ¬ a < b → B) (ha : -2147483648 ≤ a ∧ a < 2147483648 := by omega) (hb : -2147483648 ≤ b ∧ b < 2147483648 := by omega) : (iI a < iI b → A) ∧ (¬ iI a < iI b → B) := by
  rw [iI_lt ha hb]
  exact ⟨f, g⟩
theorem b_le {a b : Int} {A B : Prop} (f : a ≤ b → A) (g : ¬ a ≤ b → B) (ha : -2147483648 ≤ a ∧ a < 2147483648 := by omega) (hb : -2147483648 ≤ b ∧ b < 2147483648 := by omega) : (iI a ≤ iI b → A) ∧ (¬ iI a ≤ iI b → B) := by
  rw [iI_le ha hb]
  exact ⟨f, g⟩
theorem b_eq {a b : Int} {A B : Prop} (f : a = b → A) (g : ¬ a = b → B) (ha : -2147483648 ≤ a ∧ a < 2147483648 := by omega) (hb : -2147483648 ≤ b ∧ b < 2147483648 := by omega) : (iI a = iI b → A) ∧ (¬ iI a = iI b → B) := by
  rw [iI_eq ha hb]
  exact ⟨f, g⟩
/-- a number that is a small one or isn't -/
theorem iI_small (x : Int32) (n : Nat) (hn : n < 2147483648) : (∃ j : Nat, j < n ∧ x = iI j) ∨ (x.toInt < 0 ∨ (n : Int) ≤ x.toInt) := by
  obtain ⟨z, h1, h2, rfl⟩ := iI_ex x
  rw [toInt_iI h1 h2]
  by_cases h3 : z < 0
  · exact Or.inr (Or.inl h3)
  · by_cases h4 : (n : Int) ≤ z
    · exact Or.inr (Or.inr h4)
    · exact Or.inl ⟨z.toNat, by omega, by congr 1; omega⟩
theorem nar0 : narrow .boolean (.int (0 : Int32)) = .int 0 := rfl
theorem nar1 : narrow .boolean (.int (1 : Int32)) = .int 1 := rfl
-- objects' states
theorem gI_sI_same (o : Ob) (k : Nat) (v : Int32) : gI (sI o k v) k = v := by simp [gI, sI, up]
theorem beq_ne {j k : Nat} (h : j ≠ k) : Nat.beq j k = false := by
  cases hb : Nat.beq j k with
  | false => rfl
  | true => exact absurd (Nat.eq_of_beq_eq_true hb) h
theorem gI_sI_ne (o : Ob) (k j : Nat) (v : Int32) (h : j ≠ k) : gI (sI o k v) j = gI o j := by
  have : Nat.beq j k = false := beq_ne h
  simp [gI, sI, up, this]
theorem gA_sA_same (o : Ob) (k : Nat) (v : Nat → Int32) : gA (sA o k v) k = v := by simp [gA, sA, up]
theorem gB_sB_same (o : Ob) (k : Nat) (v : Nat → Int64) : gB (sB o k v) k = v := by simp [gB, sB, up]
theorem upd_same (f : Nat → Int32) (k : Nat) (v : Int32) : upd f k v k = v := by simp [upd]
theorem upd_ne (f : Nat → Int32) (k j : Nat) (v : Int32) (h : j ≠ k) : upd f k v j = f j := by simp [upd, h]
theorem updL_same (f : Nat → Int64) (k : Nat) (v : Int64) : vp_updL f k v k = v := by simp [vp_updL]
theorem updL_ne (f : Nat → Int64) (k j : Nat) (v : Int64) (h : j ≠ k) : vp_updL f k v j = f j := by simp [vp_updL, h]
