-- the row: the class's way
def FW (n : Nat → Nat) (np : Nat) (C : Nat → Nat → Nat) (s k j : Nat) : Prop := j < TN n np 0 ∧ C (s + 1) j < 1000000 ∧ C (s + 1) j + dk n np k j = C s k ∧ ∀ i, i < j → ¬ (C (s + 1) i < 1000000 ∧ C (s + 1) i + dk n np k i = C s k)
theorem FW.uq {n : Nat → Nat} {np : Nat} {C : Nat → Nat → Nat} {s k i j : Nat} (h : FW n np C s k i) (g : FW n np C s k j) : i = j := by
  rcases Nat.lt_trichotomy i j with q | q | q
  · exact absurd ⟨h.2.1, h.2.2.1⟩ (g.2.2.2 i q)
  · exact q
  · exact absurd ⟨g.2.1, g.2.2.1⟩ (h.2.2.2 j q)
theorem first_of {P : Nat → Prop} : ∀ T, (∃ j, j < T ∧ P j) → ∃ j, j < T ∧ P j ∧ ∀ i, i < j → ¬ P i := by
  intro T
  induction T with
  | zero => rintro ⟨j, hj, -⟩; exact absurd hj (Nat.not_lt_zero _)
  | succ T ih =>
    rintro ⟨j, hj, pj⟩
    by_cases h : ∃ j, j < T ∧ P j
    · obtain ⟨i, i1, i2, i3⟩ := ih h
      exact ⟨i, by omega, i2, i3⟩
    · have : j = T := by
        rcases Nat.lt_or_ge j T with q | q
        · exact absurd ⟨j, q, pj⟩ h
        · omega
      subst this
      exact ⟨j, hj, pj, fun i hi pi => h ⟨i, hi, pi⟩⟩
section RO
variable {np m : Nat} {n r : Nat → Nat} {o : Ob} {P : Nat → Nat → Prop} {C : Nat → Nat → Nat}
theorem RW.mk (h : RW n np m 0 P C) {s k : Nat} (hs : s < m) (hk : k < TN n np 0) (hf : C s k < 1000000) : P s k := by
  by_cases p : P s k
  · exact p
  · have := (h s (Nat.zero_le _) hs k hk).2.1 p
    omega
theorem RW.nx (h : RW n np m 0 P C) {s k : Nat} (hs : s + 1 < m) (hk : k < TN n np 0) (hf : C s k < 1000000) : ∃ j, FW n np C s k j := by
  obtain ⟨-, j, j1, j2⟩ := ((h s (Nat.zero_le _) (by omega) k hk).2.2 (h.mk (by omega) hk hf)).2 hs
  obtain ⟨i, i1, i2, i3⟩ := first_of (P := fun j => C (s + 1) j < 1000000 ∧ C (s + 1) j + dk n np k j = C s k) (TN n np 0) ⟨j, j1, by omega, j2.symm⟩
  exact ⟨i, i1, i2.1, i2.2, i3⟩
/-- the k-th shape of a row -/
def PT (n : Nat → Nat) (np : Nat) (C : Nat → Nat → Nat) (b : Nat) : Nat → Nat → Prop
  | 0, j => j = b
  | i + 1, j => ∃ k, PT n np C b i k ∧ FW n np C i k j
theorem PT.uq {b : Nat} : ∀ {i j j' : Nat}, PT n np C b i j → PT n np C b i j' → j = j' := by
  intro i
  induction i with
  | zero => intro j j' h h'; exact Eq.trans h (Eq.symm h')
  | succ i ih =>
    intro j j' h h'
    obtain ⟨k, a1, a2⟩ := h
    obtain ⟨k', b1, b2⟩ := h'
    have e := ih a1 b1
    subst e
    exact a2.uq b2
theorem sh_distanceOwn {k : Nat} {Q : Int32 → Prop} (hnp : np ≤ 5) (h : SHL np n r o) (hk : k < TT (szN n) np 0) (ht : ∀ i, i < np → okW (gA o 5 i)) (hQ : Q (iI ((dS (shp n np k) (gA o 5) np : Nat) : Int))) : f_Sh_distanceOwn (iI k) r o Q := by
  have lp : ∀ (f i : Nat), f + i = np → f_Sh_distanceOwn_5 r o Q (f + 1) (iI k) (iI ((dS (shp n np k) (gA o 5) i : Nat) : Int)) (iI i) := by
    intro f
    induction f with
    | zero =>
      intro i hi
      have : i = np := by omega
      subst this
      unfold f_Sh_distanceOwn_5
      rw [h.1]
      exact k_t (Int32.le_refl _) hQ
    | succ f ih =>
      intro i hi
      have ei : iI (i : Int) + (1 : Int32) = iI ((i + 1 : Nat) : Int) := ix_add i 1
      obtain ⟨a1, a2, a3⟩ := wZ_ok (shp_ok h.2.1 k i (by omega))
      obtain ⟨b1, b2, b3⟩ := wZ_ok (ht i (by omega))
      unfold f_Sh_distanceOwn_5
      rw [h.1, ei, cl_nat (by omega)]
      refine b_le (fun q => by omega) (fun _ => sh_widthIn hnp h hk (show i < np by omega) ⟨v_nat (by omega) (by decide), ?_⟩)
      rw [a3, b3, abs_is (by omega) (by omega)]
      refine k_n ?_
      rw [show iI ((dS (shp n np k) (gA o 5) i : Nat) : Int) + iI (((wZ (shp n np k) i - wZ (gA o 5) i).natAbs : Nat) : Int) = iI ((dS (shp n np k) (gA o 5) (i + 1) : Nat) : Int) by rw [iI_add]; congr 1]
      exact ih (i + 1) (by omega)
  exact ⟨np + 1, lp np 0 rfl⟩
theorem sh_firstOfRow {Q : Int32 → Prop} (hnp : np ≤ 5) (h : SHL np n r o) (h111 : 8 * TN n np 0 ≤ r 111) (hm1 : 1 ≤ m) (hm : m ≤ 8) (hW : RW n np m 0 P C) (hA : RA (TN n np 0) m 0 C (gA o 11)) (no : (∀ k, k < TN n np 0 → ¬ C 0 k < 1000000) → Q (-1)) (yes : ∀ b, BE (fun k => C 0 k < 1000000) (C 0) (TN n np 0) b → Q (iI b)) : f_Sh_firstOfRow r o Q := by
  have T0 := (TN_le h.2.1 hnp (i := 0) (by omega)).2
  have h8 : gI o 8 = iI ((TN n np 0 : Nat) : Int) := h.2.2.2.2.1
  have r8 := h.2.2.2.2.2.2.2
  have ha : ∀ k, k < TN n np 0 → gA o 11 k = iI ((C 0 k : Nat) : Int) := fun k hk => by
    have := hA 0 (Nat.le_refl _) hm1 k hk
    rw [Nat.zero_mul, Nat.zero_add] at this
    exact this
  have lp : ∀ (d k : Nat) (x y : Int32), d + k = TN n np 0 → (((∀ j, j < k → ¬ C 0 j < 1000000) ∧ x = -1 ∧ y = 1000000) ∨ ∃ b, BE (fun k => C 0 k < 1000000) (C 0) k b ∧ x = iI b ∧ y = iI ((C 0 b : Nat) : Int)) → f_Sh_firstOfRow_7 r o Q (d + 1) x y (iI k) := by
    intro d
    induction d with
    | zero =>
      intro k x y hk hx
      have : k = TN n np 0 := by omega
      subst this
      unfold f_Sh_firstOfRow_7
      rw [h8]
      refine k_t (Int32.le_refl _) ?_
      rcases hx with ⟨h1, h2, -⟩ | ⟨b, h1, h2, -⟩
      · rw [h2]; exact no h1
      · rw [h2]; exact yes b h1
    | succ d ih =>
      intro k x y hk hx
      have ek : iI (k : Int) + (1 : Int32) = iI ((k + 1 : Nat) : Int) := ix_add k 1
      have hd := hW.bd (k := k) hm (Nat.le_refl _) hm1 (by omega)
      have vk : vp_in (iI (k : Int)) (r 111) := v_nat (by omega) (by omega)
      unfold f_Sh_firstOfRow_7
      rw [h8, ek, cl_nat (by omega), ha k (by omega)]
      refine b_le (fun q => by omega) (fun _ => ⟨vk, ?_⟩)
      rcases hx with ⟨h1, h2, h3⟩ | ⟨b, h1, h2, h3⟩
      · rw [h3]
        refine b_le (a := 1000000) (fun q => ih (k + 1) _ _ (by omega) (Or.inl ⟨fun j hj => ?_, h2, rfl⟩)) (fun q => ⟨vk, ih (k + 1) _ _ (by omega) (Or.inr ⟨k, BE.new (by show C 0 k < 1000000; omega) (fun j hj pj => absurd pj (h1 j hj)), rfl, rfl⟩)⟩)
        by_cases e : j = k
        · subst e; omega
        · exact h1 j (by omega)
      · rw [h3]
        have hb2 : C 0 b < 1000000 := h1.2.1
        refine b_le (fun q => ih (k + 1) _ _ (by omega) (Or.inr ⟨b, h1.keep (fun _ => by omega), h2, rfl⟩)) (fun q => ⟨vk, ih (k + 1) _ _ (by omega) (Or.inr ⟨k, BE.new (by show C 0 k < 1000000; omega) (fun j hj pj => ?_), rfl, rfl⟩)⟩)
        have := h1.2.2.1 j hj pj
        omega
  exact ⟨_, lp (TN n np 0) 0 _ _ rfl (Or.inl ⟨fun j hj => by omega, rfl, rfl⟩)⟩
theorem sh_firstOnTheWay {s k : Nat} {Q : Int32 → Prop} (hnp : np ≤ 5) (h : SHL np n r o) (h111 : 8 * TN n np 0 ≤ r 111) (hm : m ≤ 8) (hs : s + 1 < m) (hk : k < TN n np 0) (hf : C s k < 1000000) (hW : RW n np m 0 P C) (hA : RA (TN n np 0) m 0 C (gA o 11)) (h5 : ∀ i, i < np → gA o 5 i = shp n np k i) (yes : ∀ j, FW n np C s k j → Q (iI j)) : f_Sh_firstOnTheWay (iI (((s + 1) * TN n np 0 : Nat) : Int)) (iI ((C s k : Nat) : Int)) r o Q := by
  have hok := h.2.1
  have T0 := (TN_le hok hnp (i := 0) (by omega)).2
  have h8 : gI o 8 = iI ((TN n np 0 : Nat) : Int) := h.2.2.2.2.1
  have r8 := h.2.2.2.2.2.2.2
  have hs8 := Nat.mul_le_mul_right (TN n np 0) (show s + 1 + 1 ≤ 8 by omega)
  rw [Nat.succ_mul] at hs8
  obtain ⟨j0, f0⟩ := hW.nx hs hk hf
  have ht : ∀ i, i < np → okW (gA o 5 i) := fun i hi => by rw [h5 i hi]; exact shp_ok hok k i hi
  have hd : ∀ j, dS (shp n np j) (gA o 5) np = dk n np k j := fun j => by
    rw [dS_congr np (a' := shp n np j) (b' := shp n np k) (fun _ _ => rfl) h5, dS_comm]
  have lp : ∀ (d j : Nat), d + j = j0 → f_Sh_firstOnTheWay_2 r o Q (d + 1) (iI (((s + 1) * TN n np 0 : Nat) : Int)) (iI ((C s k : Nat) : Int)) (iI j) := by
    intro d
    induction d with
    | zero =>
      intro j hj
      have : j = j0 := by omega
      subst this
      have hj1 := f0.1
      have ex : iI (((s + 1) * TN n np 0 : Nat) : Int) + iI (j : Int) = iI (((s + 1) * TN n np 0 + j : Nat) : Int) := ix_add _ _
      have vx : vp_in (iI (((s + 1) * TN n np 0 + j : Nat) : Int)) (r 111) := v_nat (by omega) (by omega)
      have c1 := f0.2.1
      have c2 := f0.2.2.1
      unfold f_Sh_firstOnTheWay_2
      rw [h8, ex, cl_nat (by omega), hA (s + 1) (Nat.zero_le _) hs j hj1]
      refine b_le (fun q => by omega) (fun _ => ⟨vx, b_le (a := 1000000) (fun q => by omega) (fun _ => ⟨vx, sh_distanceOwn hnp h hj1 ht ?_⟩)⟩)
      rw [hd, iI_add]
      exact b_eq (fun _ => yes j f0) (fun q => absurd (by omega) q)
    | succ d ih =>
      intro j hj
      have hj0 := f0.1
      have ej : iI (j : Int) + (1 : Int32) = iI ((j + 1 : Nat) : Int) := ix_add j 1
      have ex : iI (((s + 1) * TN n np 0 : Nat) : Int) + iI (j : Int) = iI (((s + 1) * TN n np 0 + j : Nat) : Int) := ix_add _ _
      have vx : vp_in (iI (((s + 1) * TN n np 0 + j : Nat) : Int)) (r 111) := v_nat (by omega) (by omega)
      have c1 := hW.bd (k := j) hm (Nat.zero_le (s + 1)) hs (by omega)
      have c2 := dk_le hok hnp k j
      unfold f_Sh_firstOnTheWay_2
      rw [h8, ex, ej, cl_nat (by omega), hA (s + 1) (Nat.zero_le _) hs j (by omega)]
      refine b_le (fun q => by omega) (fun _ => ⟨vx, b_le (a := 1000000) (fun q => ih (j + 1) (by omega)) (fun q => ⟨vx, sh_distanceOwn hnp h (by show j < TN n np 0; omega) ht ?_⟩)⟩)
      rw [hd, iI_add]
      refine b_eq (fun e => ?_) (fun _ => ih (j + 1) (by omega))
      exact absurd ⟨by omega, by omega⟩ (f0.2.2.2 j (by omega))
  exact ⟨_, lp j0 0 rfl⟩
theorem sh_shapeOfRow {b k : Nat} {Q : Int32 → Ob → Prop} (hnp : np ≤ 5) (h : SHL np n r o) (hB : SBX np n o) (h111 : 8 * TN n np 0 ≤ r 111) (hm : m ≤ 8) (hk : k < m) (hb : b < TN n np 0) (hbf : C 0 b < 1000000) (hW : RW n np m 0 P C) (hA : RA (TN n np 0) m 0 C (gA o 11)) (yes : ∀ j o', PT n np C b k j → j < TN n np 0 → SHL np n r o' → SBX np n o' → Q (iI j) o') : f_Sh_shapeOfRow (iI b) (iI k) r o Q := by
  have hok := h.2.1
  have T0 := (TN_le hok hnp (i := 0) (by omega)).2
  have r8 := h.2.2.2.2.2.2.2
  have l32 : ∀ (k5 : Int32 → Int32 → Int32 → Ob → Prop) (i x : Nat), i + 1 < m → x < TN n np 0 → C i x < 1000000 → ∀ (d j : Nat) (u : Ob), d + j = np → SHL np n r u → SBX np n u → RA (TN n np 0) m 0 C (gA u 11) → (∀ p, p < j → gA u 5 p = shp n np x p) → (∀ u' j', SHL np n r u' → SBX np n u' → RA (TN n np 0) m 0 C (gA u' 11) → FW n np C i x j' → k5 (iI k) (iI j') (iI ((i + 1 + 1 : Nat) : Int)) u') → f_Sh_shapeOfRow_32 r k5 Q (d + 1) (iI k) (iI x) (iI ((i + 1 : Nat) : Int)) (iI ((C i x : Nat) : Int)) (iI j) u := by
    intro k5 i x hi hx hf d
    induction d with
    | zero =>
      intro j u hd g1 g2 g3 g4 hk5
      have : j = np := by omega
      subst this
      unfold f_Sh_shapeOfRow_32
      have e8 : iI ((i + 1 : Nat) : Int) * gI u 8 = iI (((i + 1) * TN n j 0 : Nat) : Int) := by rw [g1.2.2.2.2.1, iI_mul]; congr 1
      have ei : iI ((i + 1 : Nat) : Int) + (1 : Int32) = iI ((i + 1 + 1 : Nat) : Int) := ix_add _ 1
      rw [g1.1, e8, ei]
      exact k_t (Int32.le_refl _) (sh_firstOnTheWay hnp g1 h111 hm hi hx hf hW g3 g4 (fun j' hj' => hk5 u j' g1 g2 g3 hj'))
    | succ d ih =>
      intro j u hd g1 g2 g3 g4 hk5
      have ej : iI (j : Int) + (1 : Int32) = iI ((j + 1 : Nat) : Int) := ix_add j 1
      unfold f_Sh_shapeOfRow_32
      rw [g1.1, ej, cl_nat (by omega)]
      refine b_le (fun q => by omega) (fun _ => sh_widthIn hnp g1 hx (show j < np by omega) ⟨v_nat (by omega) (by decide), ?_⟩)
      refine ih (j + 1) _ (by omega) (g1.cg rfl rfl rfl rfl rfl rfl rfl g1.2.2.2.2.2.2.2) g2 g3 (fun p hp => ?_) hk5
      show upd (gA u 5) j (shp n np x j) p = _
      by_cases e : p = j
      · subst e; exact upd_same _ _ _
      · rw [upd_ne _ _ _ _ e]; exact g4 p (by omega)
  have l5 : ∀ (d i x : Nat) (u : Ob), d + i = k → PT n np C b i x → x < TN n np 0 → C i x < 1000000 → SHL np n r u → SBX np n u → RA (TN n np 0) m 0 C (gA u 11) → f_Sh_shapeOfRow_5 r Q (d + 1) (iI k) (iI x) (iI ((i + 1 : Nat) : Int)) u := by
    intro d
    induction d with
    | zero =>
      intro i x u hd p1 p2 p3 g1 g2 g3
      have : i = k := by omega
      subst this
      unfold f_Sh_shapeOfRow_5
      exact b_lt (fun _ => yes x u p1 p2 g1 g2) (fun q => by omega)
    | succ d ih =>
      intro i x u hd p1 p2 p3 g1 g2 g3
      have e1 : iI ((i + 1 : Nat) : Int) - (1 : Int32) = iI (i : Int) := by rw [show (1 : Int32) = iI 1 from rfl, iI_sub]; congr 1; omega
      have e8 : iI (i : Int) * gI u 8 + iI (x : Int) = iI ((i * TN n np 0 + x : Nat) : Int) := by rw [g1.2.2.2.2.1, iI_mul, iI_add]; congr 1
      have hs8 := Nat.mul_le_mul_right (TN n np 0) (show i + 1 ≤ 8 by omega)
      rw [Nat.succ_mul] at hs8
      unfold f_Sh_shapeOfRow_5
      rw [e1, e8, cl_nat (by omega)]
      refine b_lt (fun q => by omega) (fun _ => ⟨v_nat (by omega) (by omega), k_e (g3 i (Nat.zero_le _) (by omega) x p2) ⟨np + 1, ?_⟩⟩)
      exact l32 _ i x (by omega) p2 p3 np 0 u rfl g1 g2 g3 (fun p hp => by omega) (fun u' j' a1 a2 a3 a4 => ih (i + 1) j' u' (by omega) ⟨x, p1, a4⟩ a4.1 a4.2.1 a1 a2 a3)
  exact ⟨k + 1, l5 k 0 b o rfl rfl hb hbf h hB hA⟩
end RO
