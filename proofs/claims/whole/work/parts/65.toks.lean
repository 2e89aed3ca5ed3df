-- bytes, and what they are
def kV (v : Int) : Nat := if (97 ≤ v ∧ v ≤ 122) ∨ (65 ≤ v ∧ v ≤ 90) then 2 else if 48 ≤ v ∧ v ≤ 57 then 3 else if v = 10 ∨ v = 32 then 1 else if v = 44 then 4 else if v = 59 then 5 else 6
def sv (c : Nat) : Int := if c < 128 then (c : Int) else (c : Int) - 256
theorem kV_sv {c : Nat} (hc : c < 256) : kV (sv c) = kV c := by
  by_cases h : c < 128
  · unfold sv; rw [if_pos h]
  · unfold sv; rw [if_neg h]
    unfold kV
    rw [if_neg (by omega), if_neg (by omega), if_neg (by omega), if_neg (by omega), if_neg (by omega), if_neg (by omega), if_neg (by omega), if_neg (by omega), if_neg (by omega), if_neg (by omega)]
theorem sb_is {c : Nat} (hc : c < 256) : (iI (c : Int)).toInt8.toInt32 = iI (sv c) := by
  have h1 : ∀ k : Nat, k < 128 → (iI (k : Int)).toInt8.toInt32 = iI (k : Int) := by decide
  have h2 : ∀ k : Nat, k < 128 → (iI ((k : Int) + 128)).toInt8.toInt32 = iI ((k : Int) - 128) := by decide
  unfold sv
  by_cases h : c < 128
  · rw [if_pos h]; exact h1 c h
  · rw [if_neg h]
    have := h2 (c - 128) (by omega)
    rw [show ((c - 128 : Nat) : Int) + 128 = (c : Int) by omega, show ((c - 128 : Nat) : Int) - 128 = (c : Int) - 256 by omega] at this
    exact this
theorem sv_bd {c : Nat} (hc : c < 256) : -128 ≤ sv c ∧ sv c < 128 := by
  unfold sv
  by_cases h : c < 128
  · rw [if_pos h]; omega
  · rw [if_neg h]; omega
theorem sv_lo {c : Nat} (hc : c < 128) : sv c = c := by unfold sv; rw [if_pos hc]
theorem re_kind {v : Int} {Q : Int32 → Prop} (hv : -128 ≤ v ∧ v < 256) (hQ : Q (iI ((kV v : Nat) : Int))) : f_Re_kindOf (iI v) Q := by
  have leaf : ∀ k : Nat, kV v = k → Q (iI (k : Int)) := fun k h => h ▸ hQ
  have k40 : ¬ ((97 ≤ v ∧ v ≤ 122) ∨ (65 ≤ v ∧ v ≤ 90)) → ¬ (48 ≤ v ∧ v ≤ 57) → f_Re_kindOf_40 Q (iI v) := by
    intro h1 h2
    unfold f_Re_kindOf_40
    refine b_eq (b := 10) (fun q => leaf 1 ?_) (fun q1 => b_eq (b := 32) (fun q => leaf 1 ?_) (fun q2 => b_eq (b := 44) (fun q => leaf 4 ?_) (fun q3 => b_eq (b := 59) (fun q => leaf 5 ?_) (fun q4 => leaf 6 ?_))))
    · unfold kV; rw [if_neg h1, if_neg h2, if_pos (Or.inl q)]
    · unfold kV; rw [if_neg h1, if_neg h2, if_pos (Or.inr q)]
    · unfold kV; rw [if_neg h1, if_neg h2, if_neg (by omega), if_pos q]
    · unfold kV; rw [if_neg h1, if_neg h2, if_neg (by omega), if_neg (by omega), if_pos q]
    · unfold kV; rw [if_neg h1, if_neg h2, if_neg (by omega), if_neg q3, if_neg q4]
  have k26 : ¬ ((97 ≤ v ∧ v ≤ 122) ∨ (65 ≤ v ∧ v ≤ 90)) → f_Re_kindOf_26 Q (iI v) := by
    intro h
    unfold f_Re_kindOf_26
    refine b_lt (b := 48) (fun q => k40 h (by omega)) (fun q1 => b_lt (a := 57) (fun q => k40 h (by omega)) (fun q2 => leaf 3 ?_))
    unfold kV; rw [if_neg h, if_pos (by omega)]
  have k12 : ¬ (97 ≤ v ∧ v ≤ 122) → f_Re_kindOf_12 Q (iI v) := by
    intro h
    unfold f_Re_kindOf_12
    refine b_lt (b := 65) (fun q => k26 (by omega)) (fun q1 => b_lt (a := 90) (fun q => k26 (by omega)) (fun q2 => leaf 2 ?_))
    unfold kV; rw [if_pos (by omega)]
  unfold f_Re_kindOf
  refine b_lt (b := 97) (fun q => k12 (by omega)) (fun q1 => b_le (b := 122) (fun q => leaf 2 ?_) (fun q => k12 (by omega)))
  unfold kV; rw [if_pos (by omega)]
theorem kV_2 {v : Int} : kV v = 2 ↔ (97 ≤ v ∧ v ≤ 122) ∨ (65 ≤ v ∧ v ≤ 90) := by
  unfold kV
  by_cases h : (97 ≤ v ∧ v ≤ 122) ∨ (65 ≤ v ∧ v ≤ 90)
  · rw [if_pos h]; exact ⟨fun _ => h, fun _ => rfl⟩
  · rw [if_neg h]
    refine ⟨fun q => ?_, fun q => absurd q h⟩
    repeat' (split at q)
    all_goals omega
theorem kV_3 {v : Int} : kV v = 3 ↔ 48 ≤ v ∧ v ≤ 57 := by
  unfold kV
  by_cases h : (97 ≤ v ∧ v ≤ 122) ∨ (65 ≤ v ∧ v ≤ 90)
  · rw [if_pos h]; exact ⟨fun q => by omega, fun q => by omega⟩
  · rw [if_neg h]
    by_cases g : 48 ≤ v ∧ v ≤ 57
    · rw [if_pos g]; exact ⟨fun _ => g, fun _ => rfl⟩
    · rw [if_neg g]
      refine ⟨fun q => ?_, fun q => absurd q g⟩
      repeat' (split at q)
      all_goals omega
theorem kV_1 {v : Int} : kV v = 1 ↔ v = 10 ∨ v = 32 := by
  unfold kV
  by_cases h : (97 ≤ v ∧ v ≤ 122) ∨ (65 ≤ v ∧ v ≤ 90)
  · rw [if_pos h]; exact ⟨fun q => by omega, fun q => by omega⟩
  · rw [if_neg h]
    by_cases g : 48 ≤ v ∧ v ≤ 57
    · rw [if_pos g]; exact ⟨fun q => by omega, fun q => by omega⟩
    · rw [if_neg g]
      by_cases f : v = 10 ∨ v = 32
      · rw [if_pos f]; exact ⟨fun _ => f, fun _ => rfl⟩
      · rw [if_neg f]
        refine ⟨fun q => ?_, fun q => absurd q f⟩
        repeat' (split at q)
        all_goals omega
theorem kV_456 {v : Int} (h2 : kV v ≠ 2) (h3 : kV v ≠ 3) (h1 : kV v ≠ 1) : (kV v = 4 ∧ v = 44) ∨ (kV v = 5 ∧ v = 59) ∨ (kV v = 6 ∧ v ≠ 44 ∧ v ≠ 59) := by
  rw [Ne, kV_2] at h2
  rw [Ne, kV_3] at h3
  rw [Ne, kV_1] at h1
  unfold kV
  rw [if_neg h2, if_neg h3, if_neg h1]
  by_cases f : v = 44
  · rw [if_pos f]; exact Or.inl ⟨rfl, f⟩
  · rw [if_neg f]
    by_cases g : v = 59
    · rw [if_pos g]; exact Or.inr (Or.inl ⟨rfl, g⟩)
    · rw [if_neg g]; exact Or.inr (Or.inr ⟨rfl, f, g⟩)
theorem md_digit {v : Int} {Q : Int32 → Prop} (hv : -128 ≤ v ∧ v < 256) (h1 : kV v = 3 → Q 1) (h0 : kV v ≠ 3 → Q 0) : f_Md_isDigit (iI v) Q := by
  unfold f_Md_isDigit
  exact md_in (lo := 48) (hi := 57) (fun a b => ⟨nar1, h1 (kV_3.mpr ⟨a, b⟩)⟩) (fun q => ⟨nar0, h0 (fun z => by have := kV_3.mp z; omega)⟩) (by omega) (by omega) (by omega)
theorem md_letter {v : Int} {Q : Int32 → Prop} (hv : -128 ≤ v ∧ v < 256) (h1 : kV v = 2 → Q 1) (h0 : kV v ≠ 2 → Q 0) : f_Md_isLetter (iI v) Q := by
  unfold f_Md_isLetter
  exact md_in (lo := 97) (hi := 122) (fun a b => k_f (by decide) (h1 (kV_2.mpr (Or.inl ⟨a, b⟩)))) (fun q => k_t rfl (md_in (lo := 65) (hi := 90) (fun a b => k_f (by decide) (h1 (kV_2.mpr (Or.inr ⟨a, b⟩)))) (fun q2 => k_t rfl (h0 (fun z => by have := kV_2.mp z; omega))) (by omega) (by omega) (by omega))) (by omega) (by omega) (by omega)
/-- the tape's bytes, and the model's -/
def TB (b : Nat → Nat) (n : Nat) (ta : Ob) : Prop := n ≤ 400 ∧ gI ta 1 = iI n ∧ ∀ i, i < n → b i < 256 ∧ gA ta 0 i = iI (sv (b i))
def UB (b : Nat → Nat) (n : Nat) (u : Ob) : Prop := gI u 7 = iI n ∧ ∀ i, i < n → gA u 6 i = iI ((b i : Nat) : Int)
abbrev kb (b : Nat → Nat) (i : Nat) : Nat := kV ((b i : Nat) : Int)
theorem run_ex (P : Nat → Prop) (n : Nat) : ∀ d p, d + p = n → ∃ s, p ≤ s ∧ s ≤ n ∧ (∀ i, p ≤ i → i < s → P i) ∧ (s < n → ¬ P s) := by
  intro d
  induction d with
  | zero => intro p hp; exact ⟨p, Nat.le_refl _, by omega, fun i a b => by omega, fun q => by omega⟩
  | succ d ih =>
    intro p hp
    by_cases h : P p
    · obtain ⟨s, s1, s2, s3, s4⟩ := ih (p + 1) (by omega)
      refine ⟨s, by omega, s2, fun i a c => ?_, s4⟩
      by_cases e : i = p
      · subst e; exact h
      · exact s3 i (by omega) c
    · exact ⟨p, Nat.le_refl _, by omega, fun i a b => by omega, fun _ => h⟩
section CT
variable {b : Nat → Nat} {n : Nat} {ta : Ob} {r : Nat → Nat}
theorem TB.kind (h : TB b n ta) {i : Nat} (hi : i < n) {Q : Int32 → Prop} (hQ : Q (iI ((kb b i : Nat) : Int))) : f_Re_kindOf (gA ta 0 i) Q := by
  obtain ⟨b1, b2⟩ := h.2.2 i hi
  rw [b2]
  have := sv_bd b1
  exact re_kind (by omega) (by rw [kV_sv b1]; exact hQ)
theorem cl_16 (h : TB b n ta) {s : Nat} (hs : s ≤ n) (hse : s < n → kb b s ≠ 1) {c : Ob} {K : Ob → Prop} (hK : f_Re_takeToken_62 r ta K (sI c 3 (iI s))) : ∀ d p, d + p = s → (∀ i, p ≤ i → i < s → kb b i = 1) → f_Re_takeToken_16 r ta K (d + 1) (sI c 3 (iI p)) := by
  have hn := h.1
  intro d
  induction d with
  | zero =>
    intro p hp hb
    have : p = s := by omega
    subst this
    unfold f_Re_takeToken_16
    rw [show gI (sI c 3 (iI (p : Int))) 3 = iI (p : Int) from rfl, h.2.1, cl_nat (by omega)]
    refine b_le (fun q => hK) (fun q => ⟨v_nat (by omega) (by decide), h.kind (by omega) (k_f (fun z => ?_) hK)⟩)
    have k9 : kb b p ≤ 6 := by unfold kb kV; repeat' split
                               all_goals omega
    have := (iI_eq (b := 1) (by omega) (by omega)).mp z
    exact hse (by omega) (by omega)
  | succ d ih =>
    intro p hp hb
    have ep : iI (p : Int) + (1 : Int32) = iI ((p + 1 : Nat) : Int) := ix_add p 1
    unfold f_Re_takeToken_16
    rw [show gI (sI c 3 (iI (p : Int))) 3 = iI (p : Int) from rfl, h.2.1, cl_nat (by omega), ep, sI_sI]
    refine b_le (fun q => by omega) (fun q => ⟨v_nat (by omega) (by decide), h.kind (by omega) (k_t ?_ (ih (p + 1) (by omega) (fun i a c => hb i (by omega) c)))⟩)
    rw [hb p (Nat.le_refl _) (by omega)]; rfl
theorem cl_135 (h : TB b n ta) {e k : Nat} (he : e ≤ n) (hk6 : k ≤ 6) (hee : e < n → kb b e ≠ k) {c : Ob} {K : Ob → Prop} (hk : gI c 5 = iI k) (hK : f_Re_takeToken_184 r ta K (sI c 4 (iI e))) : ∀ d p, d + p = e → (∀ i, p ≤ i → i < e → kb b i = k) → f_Re_takeToken_135 r ta K (d + 1) (sI c 4 (iI p)) := by
  have hn := h.1
  intro d
  induction d with
  | zero =>
    intro p hp hb
    have : p = e := by omega
    subst this
    unfold f_Re_takeToken_135
    rw [show gI (sI c 4 (iI (p : Int))) 4 = iI (p : Int) from rfl, show gI (sI c 4 (iI (p : Int))) 5 = gI c 5 from rfl, h.2.1, hk, cl_nat (by omega)]
    refine b_le (fun q => hK) (fun q => ⟨v_nat (by omega) (by decide), h.kind (by omega) (k_f (fun z => ?_) hK)⟩)
    have k9 : kb b p ≤ 6 := by unfold kb kV; repeat' split
                               all_goals omega
    have := (iI_eq (by omega) (by omega)).mp z
    exact hee (by omega) (by omega)
  | succ d ih =>
    intro p hp hb
    have ep : iI (p : Int) + (1 : Int32) = iI ((p + 1 : Nat) : Int) := ix_add p 1
    unfold f_Re_takeToken_135
    rw [show gI (sI c 4 (iI (p : Int))) 4 = iI (p : Int) from rfl, show gI (sI c 4 (iI (p : Int))) 5 = gI c 5 from rfl, h.2.1, hk, cl_nat (by omega), ep, sI_sI]
    refine b_le (fun q => by omega) (fun q => ⟨v_nat (by omega) (by decide), h.kind (by omega) (k_t ?_ (ih (p + 1) (by omega) (fun i a c => hb i (by omega) c)))⟩)
    rw [hb p (Nat.le_refl _) (by omega)]
/-- a number as the reader counts it -/
def cvN (b : Nat → Nat) (s : Nat) : Nat → Nat
  | 0 => 0
  | i + 1 => min 1000 (cvN b s i * 10 + b (s + i) - 48)
def mvN (b : Nat → Nat) (s : Nat) : Nat → Nat
  | 0 => 0
  | i + 1 => if 100000 ≤ mvN b s i then mvN b s i else 10 * mvN b s i + b (s + i) - 48
theorem cvN_le (b : Nat → Nat) (s i : Nat) : cvN b s i ≤ 1000 := by
  cases i with
  | zero => exact Nat.zero_le _
  | succ i => exact Nat.min_le_left _ _
/-- both count alike -/
def NR (c m : Nat) : Prop := (c = m ∧ m < 1000) ∨ (c = 1000 ∧ 1000 ≤ m ∧ m < 2000000)
theorem nr_is {s L : Nat} (hd : ∀ i, i < L → 48 ≤ b (s + i) ∧ b (s + i) ≤ 57) : ∀ i, i ≤ L → NR (cvN b s i) (mvN b s i) := by
  intro i
  induction i with
  | zero => intro _; exact Or.inl ⟨rfl, by show 0 < 1000; decide⟩
  | succ i ih =>
    intro hi
    have h1 := hd i (by omega)
    have h2 := ih (by omega)
    have e1 : cvN b s (i + 1) = min 1000 (cvN b s i * 10 + b (s + i) - 48) := rfl
    have e2 : mvN b s (i + 1) = if 100000 ≤ mvN b s i then mvN b s i else 10 * mvN b s i + b (s + i) - 48 := rfl
    rw [e1, e2]
    unfold NR at h2 ⊢
    by_cases g : 100000 ≤ mvN b s i
    · rw [if_pos g]; omega
    · rw [if_neg g]; omega
theorem cl_dig (h : TB b n ta) {s L : Nat} (he : s + L ≤ n) (hd : ∀ i, i < L → 48 ≤ b (s + i) ∧ b (s + i) ≤ 57) {c : Ob} {K : Ob → Prop} (hk : gI c 4 = iI ((s + L : Nat) : Int)) (hK : K (sI c 6 (iI ((cvN b s L : Nat) : Int)))) : ∀ d i, d + i = L → f_Re_readDigits_10 r ta K (d + 1) (iI ((s + i : Nat) : Int)) (sI c 6 (iI ((cvN b s i : Nat) : Int))) := by
  have hn := h.1
  intro d
  induction d with
  | zero =>
    intro i hi
    have : i = L := by omega
    subst this
    unfold f_Re_readDigits_10
    rw [show gI (sI c 6 (iI ((cvN b s i : Nat) : Int))) 4 = gI c 4 from rfl, hk]
    exact k_t (Int32.le_refl _) hK
  | succ d ih =>
    intro i hi
    have h1 := hd i (by omega)
    have hc := cvN_le b s i
    have ep : iI ((s + i : Nat) : Int) + (1 : Int32) = iI ((s + (i + 1) : Nat) : Int) := ix_add (s + i) 1
    obtain ⟨b1, b2⟩ := h.2.2 (s + i) (by omega)
    rw [sv_lo (by omega)] at b2
    unfold f_Re_readDigits_10
    rw [show gI (sI c 6 (iI ((cvN b s i : Nat) : Int))) 4 = gI c 4 from rfl, hk, show gI (sI c 6 (iI ((cvN b s i : Nat) : Int))) 6 = iI ((cvN b s i : Nat) : Int) from rfl, cl_nat (by omega), b2, ep]
    refine b_le (fun q => by omega) (fun q => ⟨v_nat (by omega) (by decide), k_n (k_e (v := iI ((cvN b s (i + 1) : Nat) : Int)) ?_ (by rw [sI_sI]; exact ih (i + 1) (by omega)))⟩)
    rw [show (10 : Int32) = iI 10 from rfl, show (48 : Int32) = iI 48 from rfl, show (1000 : Int32) = iI 1000 from rfl, iI_mul, iI_add, iI_sub]
    have e1 : cvN b s (i + 1) = min 1000 (cvN b s i * 10 + b (s + i) - 48) := rfl
    rw [e1]
    by_cases g : cvN b s i * 10 + b (s + i) - 48 < 1000
    · rw [if_pos ((iI_lt (by omega) (by omega)).mpr (by omega))]; congr 1; omega
    · rw [if_neg (fun z => g (by have := (iI_lt (by omega) (by omega)).mp z; omega))]; congr 1; omega
end CT
-- the model's tokens
theorem md_see {b : Nat → Nat} {n p : Nat} {u : Ob} {Q : Int32 → Prop} (hn : n ≤ 400) (h : UB b n u) (hp : p ≤ 400) (h0 : n ≤ p → Q (iI (-1))) (h1 : p < n → Q (iI ((b p : Nat) : Int))) : f_Md_see (iI p) u Q := by
  unfold f_Md_see
  rw [h.1, cl_nat (by omega)]
  refine b_le (fun q => by rw [show (-1 : Int32) = iI (-1) by decide]; exact h0 (by omega)) (fun q => ⟨v_nat (by omega) (by decide), ?_⟩)
  rw [h.2 p (by omega)]
  exact h1 (by omega)
theorem lsh {c x : Nat} (hc : c < 281474976710656) (hx : x < 256) : (iL (c : Int) <<< ((8 : Int32).toInt64 &&& 63)) ||| (iI (x : Int)).toInt64 = iL ((c * 256 + x : Nat) : Int) := by
  rw [iI_toL (by omega) (by omega)]
  apply Int64.toBitVec_inj.mp
  have e1 : (((8 : Int32).toInt64 &&& 63).toBitVec.smod 64).toNat = 8 := by decide
  have e2 : ∀ k : Nat, (iL (k : Int)).toBitVec = BitVec.ofNat 64 k := fun k => by
    show BitVec.ofInt 64 (k : Int) = _
    exact BitVec.ofInt_natCast _ _
  have e3 : ((iL (c : Int) <<< ((8 : Int32).toInt64 &&& 63)) ||| iL (x : Int)).toBitVec = ((iL (c : Int)).toBitVec <<< (((8 : Int32).toInt64 &&& 63).toBitVec.smod 64).toNat) ||| (iL (x : Int)).toBitVec := rfl
  rw [e3, e1, e2, e2, e2]
  apply BitVec.eq_of_toNat_eq
  rw [BitVec.toNat_or, BitVec.toNat_shiftLeft, BitVec.toNat_ofNat, BitVec.toNat_ofNat, BitVec.toNat_ofNat, Nat.mod_eq_of_lt (show c < 2 ^ 64 by omega), Nat.mod_eq_of_lt (show x < 2 ^ 64 by omega), Nat.mod_eq_of_lt (show c * 256 + x < 2 ^ 64 by omega)]
  have e4 : c <<< 8 = c * 256 := Nat.shiftLeft_eq _ _
  rw [Nat.mod_eq_of_lt (show c <<< 8 < 2 ^ 64 by rw [e4]; omega), ← Nat.shiftLeft_add_eq_or_of_lt (show x < 2 ^ 8 by omega) c, e4]
/-- a word's code -/
def cdN (f : Nat → Nat) : Nat → Nat
  | 0 => 0
  | i + 1 => cdN f i * 256 + f i
theorem cdN_bd {f : Nat → Nat} : ∀ L, (∀ i, i < L → f i < 256) → cdN f L < 256 ^ L := by
  intro L
  induction L with
  | zero => intro _; exact Nat.one_pos
  | succ L ih =>
    intro h
    have h1 := ih (fun i hi => h i (by omega))
    have h2 := h L (by omega)
    show cdN f L * 256 + f L < _
    rw [Nat.pow_succ]
    have := Nat.mul_le_mul_right 256 (show cdN f L + 1 ≤ 256 ^ L from h1)
    omega
theorem cdN_inj {f g : Nat → Nat} : ∀ L L', (∀ i, i < L → 1 ≤ f i ∧ f i < 256) → (∀ i, i < L' → 1 ≤ g i ∧ g i < 256) → cdN f L = cdN g L' → L = L' ∧ ∀ i, i < L → f i = g i := by
  intro L
  induction L with
  | zero =>
    intro L' _ hg h
    cases L' with
    | zero => exact ⟨rfl, fun i hi => by omega⟩
    | succ L' =>
      exfalso
      have h1 : 0 = cdN g L' * 256 + g L' := h
      have := hg L' (by omega)
      omega
  | succ L ih =>
    intro L' hf hg h
    cases L' with
    | zero =>
      exfalso
      have h1 : cdN f L * 256 + f L = 0 := h
      have := hf L (by omega)
      omega
    | succ L' =>
      have h1 : cdN f L * 256 + f L = cdN g L' * 256 + g L' := h
      have h2 := hf L (by omega)
      have h3 := hg L' (by omega)
      have h4 : cdN f L = cdN g L' := by omega
      obtain ⟨e, h5⟩ := ih L' (fun i hi => hf i (by omega)) (fun i hi => hg i (by omega)) h4
      subst e
      refine ⟨rfl, fun i hi => ?_⟩
      by_cases e : i = L
      · subst e; omega
      · exact h5 i (by omega)
theorem cdN_cg {f g : Nat → Nat} : ∀ L, (∀ i, i < L → f i = g i) → cdN f L = cdN g L := by
  intro L
  induction L with
  | zero => intro _; rfl
  | succ L ih =>
    intro h
    show cdN f L * 256 + f L = cdN g L * 256 + g L
    rw [ih (fun i hi => h i (by omega)), h L (by omega)]
