theorem cF_find (P : Nat → Prop) {i : Nat} : ∀ T, i < cF P T → ∃ k, k < T ∧ P k ∧ cF P k = i := by
  intro T
  induction T with
  | zero => intro h; exact absurd h (Nat.not_lt_zero _)
  | succ T ih =>
    intro h
    by_cases hT : i < cF P T
    · obtain ⟨k, k1, k2, k3⟩ := ih hT
      exact ⟨k, by omega, k2, k3⟩
    · by_cases hp : P T
      · rw [cF_yes hp] at h
        exact ⟨T, by omega, hp, by omega⟩
      · rw [cF_no hp] at h
        omega
theorem cF_uniq {P : Nat → Prop} {k k' : Nat} (h : P k) (h' : P k') (e : cF P k = cF P k') : k = k' := by
  rcases Nat.lt_trichotomy k k' with q | q | q
  · have := cF_mono P (show k + 1 ≤ k' by omega)
    rw [cF_yes h] at this
    omega
  · exact q
  · have := cF_mono P (show k' + 1 ≤ k by omega)
    rw [cF_yes h'] at this
    omega
theorem cF_zero {P : Nat → Prop} {T : Nat} : cF P T = 0 ↔ ∀ k, k < T → ¬ P k := by
  constructor
  · intro h k hk hp
    have := cF_mono P (show k + 1 ≤ T by omega)
    rw [cF_yes hp] at this
    omega
  · intro h
    rcases Nat.eq_zero_or_pos (cF P T) with q | q
    · exact q
    · obtain ⟨k, k1, k2, -⟩ := cF_find P (i := 0) T q
      exact absurd k2 (h k k1)
section NE
variable {np : Nat} {n r : Nat → Nat} {lo hi : Nat → Int} {o : Ob}
theorem sh_fitAt {i : Nat} {Q : Int32 → Prop} (hnp : np ≤ 5) (h : SHA np n lo hi r o) (hbd : ∀ tn, tn < 5 → (-20 ≤ lo tn ∧ lo tn ≤ 19) ∧ (-20 ≤ hi tn ∧ hi tn ≤ 19)) (hi31 : i < 2147483648) (no : cF (fun k => FT lo hi (bxs n np k)) (TT (szN n) np 0) ≤ i → Q (-1)) (yes : ∀ k, k < TT (szN n) np 0 → FT lo hi (bxs n np k) → cF (fun k => FT lo hi (bxs n np k)) k = i → Q (iI k)) : f_Sh_fitAt (iI i) r o Q := by
  have T0 := okS_le h.1.2.1 hnp (i := 0) (by omega)
  have h8 := h.1.2.2.2.2.1
  have lp : ∀ (f k : Nat), f + k = TT (szN n) np 0 → cF (fun k => FT lo hi (bxs n np k)) k ≤ i → f_Sh_fitAt_4 r o Q (f + 1) (iI i) (iI ((cF (fun k => FT lo hi (bxs n np k)) k : Nat) : Int)) (iI k) := by
    intro f
    induction f with
    | zero =>
      intro k hk hle
      have : k = TT (szN n) np 0 := by omega
      subst this
      unfold f_Sh_fitAt_4
      rw [h8]
      exact k_t (Int32.le_refl _) (no hle)
    | succ f ih =>
      intro k hk hle
      have ek : iI (k : Int) + (1 : Int32) = iI ((k + 1 : Nat) : Int) := ix_add k 1
      have hck := cF_le (fun k => FT lo hi (bxs n np k)) k
      unfold f_Sh_fitAt_4
      rw [h8, ek]
      refine b_le (fun q => by omega) (fun _ => sh_fits hnp h hbd (by omega) (fun p => k_f (by decide) ?_) (fun p => k_t rfl ?_))
      · refine b_eq (fun q => yes k (by omega) p (by omega)) (fun q => ?_)
        have h3 := ih (k + 1) (by omega) (by rw [cF_yes (P := fun k => FT lo hi (bxs n np k)) p]; omega)
        rw [cF_yes (P := fun k => FT lo hi (bxs n np k)) p] at h3
        rw [show iI ((cF (fun k => FT lo hi (bxs n np k)) k : Nat) : Int) + (1 : Int32) = iI ((cF (fun k => FT lo hi (bxs n np k)) k + 1 : Nat) : Int) from ix_add _ 1]
        exact h3
      · have h3 := ih (k + 1) (by omega) (by rw [cF_no (P := fun k => FT lo hi (bxs n np k)) p]; omega)
        rw [cF_no (P := fun k => FT lo hi (bxs n np k)) p] at h3
        exact h3
  exact ⟨_, lp _ 0 rfl (Nat.zero_le _)⟩
theorem md_maker39 {i p : Nat} {P : Nat → Prop} {T ks : Nat} {u : Ob} {Q : Int32 → Ob → Prop} (hT : T ≤ 1024) (hi31 : i < 2147483648) (hp : p < 5) (h42 : ∀ k, k < T → flg (gA u 42 k) (P k)) (hks : ks < T) (pk : P ks) (ck : cF P ks = i) (hQ : Q (gA u 39 (5 * ks + p)) u) : ∃ w, f_Md_maker_39 Q w (iI p) (iI i) (0 : Int32) u := by
  have lp : ∀ (f k : Nat), f + k = ks → f_Md_maker_39 Q (f + 1) (iI p) (iI ((i : Int) - ((cF P k : Nat) : Int))) (iI k) u := by
    intro f
    induction f with
    | zero =>
      intro k hk
      have : k = ks := by omega
      subst this
      have e5 : (5 : Int32) * iI (k : Int) + iI (p : Int) = iI ((5 * k + p : Nat) : Int) := by
        rw [show (5 : Int32) = iI 5 from rfl, iI_mul, iI_add]; congr 1
      unfold f_Md_maker_39
      rw [e5, cl_nat (by omega), cl_nat (by omega)]
      rcases h42 k hks with ⟨e, -⟩ | ⟨e, hn⟩
      · refine ⟨v_nat (by omega) (by decide), k_f (by rw [e]; decide) (b_le (b := 0) (fun _ => ⟨v_nat (by omega) (by decide), k_n hQ⟩) (fun q => by omega))⟩
      · exact absurd pk hn
    | succ f ih =>
      intro k hk
      have ek : iI (k : Int) + (1 : Int32) = iI ((k + 1 : Nat) : Int) := ix_add k 1
      have hm := cF_mono P (show k + 1 ≤ ks by omega)
      have hck := cF_le P k
      have h3 := ih (k + 1) (by omega)
      unfold f_Md_maker_39 f_Md_maker_54
      rw [ek, cl_nat (by omega)]
      rcases h42 k (by omega) with ⟨e, hp'⟩ | ⟨e, hn⟩
      · rw [cF_yes hp'] at hm h3
        have e1 : iI ((i : Int) - ((cF P k : Nat) : Int)) - (1 : Int32) = iI ((i : Int) - ((cF P k + 1 : Nat) : Int)) := by
          rw [show (1 : Int32) = iI 1 from rfl, iI_sub]; congr 1; omega
        refine ⟨v_nat (by omega) (by decide), k_f (by rw [e]; decide) (b_le (b := 0) (fun q => by omega) (fun _ => ⟨v_nat (by omega) (by decide), k_f (by rw [e]; decide) ?_⟩))⟩
        rw [e1]; exact h3
      · rw [cF_no hn] at h3
        refine ⟨v_nat (by omega) (by decide), k_t e ⟨v_nat (by omega) (by decide), k_t e ?_⟩⟩
        rw [show iI ((i : Int) - ((cF P k : Nat) : Int)) - (0 : Int32) = iI ((i : Int) - ((cF P k : Nat) : Int)) from Int32.sub_zero _]
        exact h3
  have := lp ks 0 rfl
  refine ⟨ks + 1, ?_⟩
  have e0 : iI ((i : Int) - ((cF P 0 : Nat) : Int)) = iI (i : Int) := by
    rw [show ((i : Int) - ((cF P 0 : Nat) : Int)) = (i : Int) from Int.sub_zero _]
  rw [e0] at this
  exact this
/-- how far two shapes are apart -/
def dS (a b : Nat → Int32) : Nat → Nat
  | 0 => 0
  | i + 1 => dS a b i + (wZ a i - wZ b i).natAbs
theorem dS_le {a b : Nat → Int32} : ∀ i, (∀ j, j < i → okW (a j)) → (∀ j, j < i → okW (b j)) → dS a b i ≤ 11 * i := by
  intro i
  induction i with
  | zero => intro _ _; exact Nat.le_refl _
  | succ i ih =>
    intro ha hb
    have h1 := ih (fun j hj => ha j (by omega)) (fun j hj => hb j (by omega))
    have h2 := wZ_ok (ha i (by omega))
    have h3 := wZ_ok (hb i (by omega))
    show dS a b i + (wZ a i - wZ b i).natAbs ≤ _
    omega
theorem dS_congr {a a' b b' : Nat → Int32} : ∀ i, (∀ j, j < i → a j = a' j) → (∀ j, j < i → b j = b' j) → dS a b i = dS a' b' i := by
  intro i
  induction i with
  | zero => intro _ _; rfl
  | succ i ih =>
    intro ha hb
    show dS a b i + (wZ a i - wZ b i).natAbs = dS a' b' i + (wZ a' i - wZ b' i).natAbs
    unfold wZ
    rw [ih (fun j hj => ha j (by omega)) (fun j hj => hb j (by omega)), ha i (by omega), hb i (by omega)]
theorem abs_is {x y : Int} (hx : 1 ≤ x ∧ x ≤ 12) (hy : 1 ≤ y ∧ y ≤ 12) : (if 0 ≤ (iI x - iI y) then (iI x - iI y) else 0 - (iI x - iI y)) = iI (((x - y).natAbs : Nat) : Int) := by
  rw [iI_sub]
  show (if iI 0 ≤ iI (x - y) then iI (x - y) else iI 0 - iI (x - y)) = _
  by_cases h : 0 ≤ x - y
  · rw [if_pos ((iI_le (a := 0) (by omega) (by omega)).mpr h)]; congr 1; omega
  · rw [if_neg (fun q => h ((iI_le (a := 0) (by omega) (by omega)).mp q)), iI_sub]; congr 1; omega
theorem sh_distance {k : Nat} {to : Nat → Int32} {Q : Int32 → Prop} (hnp : np ≤ 5) (h : SHL np n r o) (hk : k < TT (szN n) np 0) (ht : ∀ i, i < np → okW (to i)) (hQ : Q (iI ((dS (shp n np k) to np : Nat) : Int))) : f_Sh_distance (iI k) r o to Q := by
  have lp : ∀ (f i : Nat), f + i = np → f_Sh_distance_5 r o to Q (f + 1) (iI k) (iI ((dS (shp n np k) to i : Nat) : Int)) (iI i) := by
    intro f
    induction f with
    | zero =>
      intro i hi
      have : i = np := by omega
      subst this
      unfold f_Sh_distance_5
      rw [h.1]
      exact k_t (Int32.le_refl _) hQ
    | succ f ih =>
      intro i hi
      have ei : iI (i : Int) + (1 : Int32) = iI ((i + 1 : Nat) : Int) := ix_add i 1
      obtain ⟨a1, a2, a3⟩ := wZ_ok (shp_ok h.2.1 k i (by omega))
      obtain ⟨b1, b2, b3⟩ := wZ_ok (ht i (by omega))
      unfold f_Sh_distance_5
      rw [h.1, ei, cl_nat (by omega)]
      refine b_le (fun q => by omega) (fun _ => sh_widthIn hnp h hk (show i < np by omega) ⟨v_nat (by omega) (by decide), ?_⟩)
      rw [a3, b3, abs_is (by omega) (by omega)]
      refine k_n ?_
      rw [show iI ((dS (shp n np k) to i : Nat) : Int) + iI (((wZ (shp n np k) i - wZ to i).natAbs : Nat) : Int) = iI ((dS (shp n np k) to (i + 1) : Nat) : Int) by rw [iI_add]; congr 1]
      exact ih (i + 1) (by omega)
  exact ⟨np + 1, lp np 0 rfl⟩
/-- the first of the nearest -/
def BE (P : Nat → Prop) (d : Nat → Nat) (k b : Nat) : Prop := b < k ∧ P b ∧ (∀ j, j < k → P j → d b ≤ d j) ∧ (∀ j, j < b → P j → d b < d j)
theorem BE.keep {P : Nat → Prop} {d : Nat → Nat} {k b : Nat} (h : BE P d k b) (q : P k → d b ≤ d k) : BE P d (k + 1) b := ⟨by have := h.1; omega, h.2.1, fun j hj pj => by
  by_cases hjk : j = k
  · subst hjk; exact q pj
  · exact h.2.2.1 j (by omega) pj, h.2.2.2⟩
theorem BE.new {P : Nat → Prop} {d : Nat → Nat} {k : Nat} (pk : P k) (q : ∀ j, j < k → P j → d k < d j) : BE P d (k + 1) k := ⟨by omega, pk, fun j hj pj => by
  by_cases hjk : j = k
  · subst hjk; exact Nat.le_refl _
  · exact Nat.le_of_lt (q j (by omega) pj), q⟩
theorem BE.uniq {P : Nat → Prop} {d : Nat → Nat} {k b b' : Nat} (h : BE P d k b) (h' : BE P d k b') : b = b' := by
  rcases Nat.lt_trichotomy b b' with q | q | q
  · have h1 := h'.2.2.2 b q h.2.1
    have h2 := h.2.2.1 b' h'.1 h'.2.1
    omega
  · exact q
  · have h1 := h.2.2.2 b' q h'.2.1
    have h2 := h'.2.2.1 b h.1 h.2.1
    omega
theorem sh_nearestFit {to : Nat → Int32} {Q : Int32 → Prop} (hnp : np ≤ 5) (h : SHA np n lo hi r o) (hbd : ∀ tn, tn < 5 → (-20 ≤ lo tn ∧ lo tn ≤ 19) ∧ (-20 ≤ hi tn ∧ hi tn ≤ 19)) (ht : ∀ i, i < np → okW (to i)) (no : (∀ k, k < TT (szN n) np 0 → ¬ FT lo hi (bxs n np k)) → Q (-1)) (yes : ∀ b, BE (fun k => FT lo hi (bxs n np k)) (fun k => dS (shp n np k) to np) (TT (szN n) np 0) b → Q (iI b)) : f_Sh_nearestFit r o to Q := by
  have T0 := okS_le h.1.2.1 hnp (i := 0) (by omega)
  have h8 := h.1.2.2.2.2.1
  have hdle : ∀ k, dS (shp n np k) to np ≤ 55 := fun k => by
    have := dS_le np (shp_ok h.1.2.1 k) ht
    omega
  have lp : ∀ (f k : Nat) (x y : Int32), f + k = TT (szN n) np 0 → (((∀ j, j < k → ¬ FT lo hi (bxs n np j)) ∧ x = -1 ∧ y = 1000000) ∨ ∃ b, BE (fun k => FT lo hi (bxs n np k)) (fun k => dS (shp n np k) to np) k b ∧ x = iI b ∧ y = iI ((dS (shp n np b) to np : Nat) : Int)) → f_Sh_nearestFit_8 r o to Q (f + 1) x y (iI k) := by
    intro f
    induction f with
    | zero =>
      intro k x y hk hx
      have : k = TT (szN n) np 0 := by omega
      subst this
      unfold f_Sh_nearestFit_8
      rw [h8]
      refine k_t (Int32.le_refl _) ?_
      rcases hx with ⟨h1, h2, -⟩ | ⟨b, h1, h2, -⟩
      · rw [h2]; exact no h1
      · rw [h2]; exact yes b h1
    | succ f ih =>
      intro k x y hk hx
      have ek : iI (k : Int) + (1 : Int32) = iI ((k + 1 : Nat) : Int) := ix_add k 1
      have hd := hdle k
      unfold f_Sh_nearestFit_8
      rw [h8, ek]
      refine b_le (fun q => by omega) (fun _ => sh_fits hnp h hbd (by omega) (fun p => k_f (by decide) (sh_distance hnp h.1 (by omega) ht ?_)) (fun p => k_t rfl ?_))
      · rcases hx with ⟨h1, h2, h3⟩ | ⟨b, h1, h2, h3⟩
        · rw [h3]
          refine b_le (a := 1000000) (fun q => by omega) (fun _ => ih (k + 1) _ _ (by omega) (Or.inr ⟨k, BE.new p (fun j hj pj => absurd pj (h1 j hj)), rfl, rfl⟩))
        · rw [h3]
          have hb := hdle b
          refine b_le (fun q => ih (k + 1) _ _ (by omega) (Or.inr ⟨b, h1.keep (fun _ => by omega), h2, rfl⟩)) (fun q => ih (k + 1) _ _ (by omega) (Or.inr ⟨k, BE.new p (fun j hj pj => ?_), rfl, rfl⟩))
          have := h1.2.2.1 j hj pj
          show dS (shp n np k) to np < dS (shp n np j) to np
          have h4 : dS (shp n np b) to np ≤ dS (shp n np j) to np := this
          omega
      · rcases hx with ⟨h1, h2, h3⟩ | ⟨b, h1, h2, h3⟩
        · refine ih (k + 1) _ _ (by omega) (Or.inl ⟨fun j hj => ?_, h2, h3⟩)
          by_cases hjk : j = k
          · subst hjk; exact p
          · exact h1 j (by omega)
        · exact ih (k + 1) _ _ (by omega) (Or.inr ⟨b, h1.keep (fun q => absurd q p), h2, h3⟩)
  exact ⟨_, lp _ 0 _ _ rfl (Or.inl ⟨fun j hj => by omega, rfl, rfl⟩)⟩
/-- the model's way to the nearest -/
theorem md_nearest41 {T : Nat} {P : Nat → Prop} {u : Ob} {x2 : Int32} {Q : Int32 → Ob → Prop} (hnp : np ≤ 5) (hok : okS np n) (hT : T ≤ 1024) (u0 : gI u 0 = iI np) (u40 : gI u 40 = iI (T : Int)) (hw : ∀ i, i < np → okW (gA u 1 (20 + i))) (h39 : ∀ k, k < T → ∀ j, j < np → gA u 39 (5 * k + j) = shp n np k j) (h42 : ∀ k, k < T → flg (gA u 42 k) (P k)) (hP : ∃ k, k < T ∧ P k)
    (yes : ∀ b, BE P (fun k => dS (shp n np k) (fun i => gA u 1 (20 + i)) np) T b → f_Md_nearest_41 Q 1 x2 (iI b) (iI ((dS (shp n np b) (fun i => gA u 1 (20 + i)) np : Nat) : Int)) (iI (T : Int)) u) : ∃ w, f_Md_nearest_41 Q w x2 (-1 : Int32) (0 : Int32) (0 : Int32) u := by
  have hdle : ∀ k, dS (shp n np k) (fun i => gA u 1 (20 + i)) np ≤ 55 := fun k => by
    have := dS_le np (shp_ok hok k) hw
    omega
  have lp : ∀ (f k : Nat) (x y : Int32), f + k = T → (((∀ j, j < k → ¬ P j) ∧ x = -1 ∧ y = 0) ∨ ∃ b, BE P (fun k => dS (shp n np k) (fun i => gA u 1 (20 + i)) np) k b ∧ x = iI b ∧ y = iI ((dS (shp n np b) (fun i => gA u 1 (20 + i)) np : Nat) : Int)) → f_Md_nearest_41 Q (f + 1) x2 x y (iI k) u := by
    intro f
    induction f with
    | zero =>
      intro k x y hk hx
      have : k = T := by omega
      subst this
      rcases hx with ⟨h1, -⟩ | ⟨b, h1, h2, h3⟩
      · obtain ⟨j, j1, j2⟩ := hP
        exact absurd j2 (h1 j j1)
      · rw [h2, h3]; exact yes b h1
    | succ f ih =>
      intro k x y hk hx
      have ek : iI (k : Int) + (1 : Int32) = iI ((k + 1 : Nat) : Int) := ix_add k 1
      have hd := hdle k
      unfold f_Md_nearest_41
      rw [u40, ek, cl_nat (by omega)]
      refine b_le (fun q => by omega) (fun _ => ⟨v_nat (by omega) (by decide), ?_⟩)
      rcases h42 k (by omega) with ⟨e, p⟩ | ⟨e, p⟩
      · refine k_f (by rw [e]; decide) ?_
        have l69 : ∀ (f' i : Nat), f' + i = np → f_Md_nearest_69 (f_Md_nearest_41 Q (f + 1)) Q (f' + 1) x2 x y (iI k) (iI ((dS (shp n np k) (fun i => gA u 1 (20 + i)) i : Nat) : Int)) (iI i) u := by
          intro f'
          induction f' with
          | zero =>
            intro i hi
            have : i = np := by omega
            subst this
            unfold f_Md_nearest_69
            rw [u0, ek]
            refine k_t (Int32.le_refl _) ?_
            rcases hx with ⟨h1, h2, h3⟩ | ⟨b, h1, h2, h3⟩
            · rw [h2]
              exact k_t (by decide) (ih (k + 1) _ _ (by omega) (Or.inr ⟨k, BE.new p (fun j hj pj => absurd pj (h1 j hj)), rfl, rfl⟩))
            · rw [h2, h3]
              have hb := hdle b
              have hbk := h1.1
              refine b_lt (b := 0) (fun q => by omega) (fun _ => b_lt (fun q => ih (k + 1) _ _ (by omega) (Or.inr ⟨k, BE.new p (fun j hj pj => ?_), rfl, rfl⟩)) (fun q => ih (k + 1) _ _ (by omega) (Or.inr ⟨b, h1.keep (fun _ => ?_), rfl, rfl⟩)))
              · have h4 : dS (shp n i b) (fun i => gA u 1 (20 + i)) i ≤ dS (shp n i j) (fun i => gA u 1 (20 + i)) i := h1.2.2.1 j hj pj
                show dS (shp n i k) (fun i => gA u 1 (20 + i)) i < dS (shp n i j) (fun i => gA u 1 (20 + i)) i
                omega
              · show dS (shp n i b) (fun i => gA u 1 (20 + i)) i ≤ dS (shp n i k) (fun i => gA u 1 (20 + i)) i
                omega
          | succ f' ih' =>
            intro i hi
            have ei : iI (i : Int) + (1 : Int32) = iI ((i + 1 : Nat) : Int) := ix_add i 1
            have e5 : (5 : Int32) * iI (k : Int) + iI (i : Int) = iI ((5 * k + i : Nat) : Int) := by
              rw [show (5 : Int32) = iI 5 from rfl, iI_mul, iI_add]; congr 1
            have e20 : (20 : Int32) + iI (i : Int) = iI ((20 + i : Nat) : Int) := ix_add 20 i
            obtain ⟨a1, a2, a3⟩ := wZ_ok (shp_ok hok k i (by omega))
            obtain ⟨b1, b2, b3⟩ := wZ_ok (o := fun i => gA u 1 (20 + i)) (hw i (by omega))
            have b3' : gA u 1 (20 + i) = iI (wZ (fun i => gA u 1 (20 + i)) i) := b3
            unfold f_Md_nearest_69
            rw [u0, ei, e5, e20, cl_nat (by omega), cl_nat (by omega), h39 k (by omega) i (by omega), a3, b3']
            refine b_le (fun q => by omega) (fun _ => ⟨v_nat (by omega) (by decide), k_n ⟨v_nat (by omega) (by decide), k_n ?_⟩⟩)
            have nx := ih' (i + 1) (by omega)
            rw [iI_sub]
            refine b_le (a := 0) (fun q => ?_) (fun q => ?_)
            · rw [show iI ((dS (shp n np k) (fun i => gA u 1 (20 + i)) i : Nat) : Int) + iI (wZ (shp n np k) i - wZ (fun i => gA u 1 (20 + i)) i) = iI ((dS (shp n np k) (fun i => gA u 1 (20 + i)) (i + 1) : Nat) : Int) by
                rw [iI_add]; congr 1
                show _ = ((dS (shp n np k) (fun i => gA u 1 (20 + i)) i + (wZ (shp n np k) i - wZ (fun i => gA u 1 (20 + i)) i).natAbs : Nat) : Int)
                omega]
              exact nx
            · rw [show iI ((dS (shp n np k) (fun i => gA u 1 (20 + i)) i : Nat) : Int) + -iI (wZ (shp n np k) i - wZ (fun i => gA u 1 (20 + i)) i) = iI ((dS (shp n np k) (fun i => gA u 1 (20 + i)) (i + 1) : Nat) : Int) by
                rw [iI_neg, iI_add]; congr 1
                show _ = ((dS (shp n np k) (fun i => gA u 1 (20 + i)) i + (wZ (shp n np k) i - wZ (fun i => gA u 1 (20 + i)) i).natAbs : Nat) : Int)
                omega]
              exact nx
        exact ⟨np + 1, l69 np 0 rfl⟩
      · refine k_t e ?_
        rcases hx with ⟨h1, h2, h3⟩ | ⟨b, h1, h2, h3⟩
        · refine ih (k + 1) _ _ (by omega) (Or.inl ⟨fun j hj => ?_, h2, h3⟩)
          by_cases hjk : j = k
          · subst hjk; exact p
          · exact h1 j (by omega)
        · exact ih (k + 1) _ _ (by omega) (Or.inr ⟨b, h1.keep (fun q => absurd q p), h2, h3⟩)
  exact ⟨T + 1, lp T 0 _ _ rfl (Or.inl ⟨fun j hj => by omega, rfl, rfl⟩)⟩
end NE
section OPN
variable {np lk tm : Nat} {o0 mo he sh m : Ob} {r3 r12 : Nat → Nat} {K : (Nat → Nat) → Ob → Ob → Prop}
theorem op_maker {a b c : Int32} (hnp : np ≤ 5) (hnp1 : 1 ≤ np) (h0 : gI o0 0 = iI np) (hm : gI m 0 = iI np) (hG : RGr mo (gA m 1)) (hT : RTi mo (gA m 1) tm) (hH : RHe he (gA m 1) tm) (hR : RSh np r12 sh) (hK : ∀ r' o' m', RSh np r' o' → mdM m m' → K r' o' m') :
    f_PV_maker a b c o0 r3 mo he r12 sh (fun z r' o' => f_Md_maker a b c m (fun z2 v => (z = z2 → K r' o' v) ∧ (¬ z = z2 → False))) := by
  obtain ⟨t1, t2, t3, lk, t4, t5, t6⟩ := hT
  obtain ⟨n, hok, hgA, hgm⟩ := hG.S hnp
  obtain ⟨x, x1, x2, rfl⟩ := iI_ex a
  obtain ⟨y, y1, y2, rfl⟩ := iI_ex b
  have no : ¬ ((0 ≤ x ∧ x ≤ 7) ∧ 0 ≤ y ∧ ∃ p : Nat, p < np ∧ c = iI p) → f_Md_maker (iI x) (iI y) c m (fun z2 v => ((-1 : Int32) = z2 → K r12 sh v) ∧ (¬ (-1 : Int32) = z2 → False)) := by
    intro q
    have hk := hK r12 sh m hR (mdM.rf m)
    unfold f_Md_maker
    refine md_in (lo := 0) (hi := 7) (fun a1 a2 => k_f (by decide) ?_) (fun _ => k_t rfl (k_q rfl hk)) ⟨x1, x2⟩ (by omega) (by omega)
    refine md_isPiece hm hnp (fun p hp hc => k_f (by decide) (b_lt (b := 0) (fun _ => k_q rfl hk) (fun g => ?_))) (fun _ => k_t rfl (k_q rfl hk))
    exact absurd ⟨⟨a1, a2⟩, by omega, p, hp, hc⟩ q
  unfold f_PV_maker
  refine pv_isSound ⟨x1, x2⟩ (fun a1 a2 => k_f (by decide) ?_) (fun q => k_t rfl (no (fun h => by omega)))
  refine b_lt (b := 0) (fun q => no (fun h => by omega)) (fun q0 => ?_)
  refine pv_isPiece h0 hnp (fun p hp hc => k_f (by decide) ?_) (fun q => k_t rfl (no (fun h => ?_)))
  rotate_left
  · obtain ⟨-, -, p, hp, hc⟩ := h
    exact q p hp hc
  obtain ⟨sd, rfl⟩ : ∃ k : Nat, x = k := ⟨x.toNat, by omega⟩
  obtain ⟨i, rfl⟩ : ∃ k : Nat, y = k := ⟨y.toNat, by omega⟩
  refine sh_ask (A := gA m 1) hnp hnp1 hR hok hgm t4 hH t6 t3 (by omega) (fun lo hi r' o' hTD hSA _ _ _ => ?_)
  have T0 := okS_le hok hnp (i := 0) (by omega)
  obtain ⟨u, d1, d2, d3, d4, d5, d6, drun⟩ := md_findMakers (m := m) (A := gA m 1) hnp hnp1 hok hm rfl hgA t5 (by omega) (show sd < 8 by omega) hTD
  have hcl := cF_le (fun k => FT lo hi (bxs n np k)) (TT (szN n) np 0)
  -- the model, once more
  have md : ∀ Q : Int32 → Ob → Prop, (cF (fun k => FT lo hi (bxs n np k)) (TT (szN n) np 0) ≤ i → Q (-1) u) → (∀ ks, ks < TT (szN n) np 0 → FT lo hi (bxs n np ks) → cF (fun k => FT lo hi (bxs n np k)) ks = i → Q (shp n np ks p) u) → f_Md_maker (iI (sd : Int)) (iI (i : Int)) c m Q := by
    intro Q h1 h2
    unfold f_Md_maker
    refine md_in (lo := 0) (hi := 7) (fun _ _ => k_f (by decide) ?_) (fun q => by omega) (by omega) (by omega) (by omega)
    refine md_isPiece hm hnp (fun p' hp' hc' => k_f (by decide) (b_lt (b := 0) (fun q => by omega) (fun _ => ?_))) (fun q => absurd hc (q p hp))
    refine drun _ (b_lt (fun q => ?_) (fun q => h1 (by omega)))
    obtain ⟨ks, k1, k2, k3⟩ := cF_find (fun k => FT lo hi (bxs n np k)) (i := i) (TT (szN n) np 0) (by omega)
    rw [hc]
    refine md_maker39 (by omega) (by omega) (by omega) d4 k1 k2 k3 ?_
    rw [d3 ks k1 p hp]
    exact h2 ks k1 k2 k3
  refine sh_fitAt hnp hSA (fun tn ht => hTD.bd ht) (by omega) (fun q => ?_) (fun k k1 k2 k3 => ?_)
  · exact k_t rfl (md _ (fun _ => k_q rfl (hK r' o' u hSA.R d1)) (fun ks j1 j2 j3 => by
      have := cF_mono (fun k => FT lo hi (bxs n np k)) (show ks + 1 ≤ TT (szN n) np 0 by omega)
      rw [cF_yes (P := fun k => FT lo hi (bxs n np k)) j2] at this
      omega))
  · refine k_f (fun q => ?_) ?_
    · have := (iI_eq (a := (k : Int)) (b := -1) (by omega) (by omega)).mp (by rw [q]; decide)
      omega
    · rw [hc]
      refine sh_widthIn hnp hSA.1 k1 hp ?_
      rw [← hc]
      refine md _ (fun q => ?_) (fun ks j1 j2 j3 => k_q ?_ (hK r' o' u hSA.R d1))
      · have := cF_mono (fun k => FT lo hi (bxs n np k)) (show k + 1 ≤ TT (szN n) np 0 by omega)
        rw [cF_yes (P := fun k => FT lo hi (bxs n np k)) k2] at this
        omega
      · rw [cF_uniq (P := fun k => FT lo hi (bxs n np k)) k2 j2 (k3.trans j3.symm)]
theorem op_nearest {a b : Int32} (hnp : np ≤ 5) (hnp1 : 1 ≤ np) (h0 : gI o0 0 = iI np) (hm : gI m 0 = iI np) (hW : RWi mo (gA m 1)) (hG : RGr mo (gA m 1)) (hT : RTi mo (gA m 1) tm) (hH : RHe he (gA m 1) tm) (hR : RSh np r12 sh) (hK : ∀ r' o' m', RSh np r' o' → mdM m m' → K r' o' m') :
    f_PV_nearest a b o0 r3 mo he r12 sh (fun z r' o' => f_Md_nearest a b m (fun z2 v => (z = z2 → K r' o' v) ∧ (¬ z = z2 → False))) := by
  obtain ⟨t1, t2, t3, lk, t4, t5, t6⟩ := hT
  obtain ⟨n, hok, hgA, hgm⟩ := hG.S hnp
  obtain ⟨x, x1, x2, rfl⟩ := iI_ex a
  have T0 := okS_le hok hnp (i := 0) (by omega)
  have no : ¬ ((0 ≤ x ∧ x ≤ 7) ∧ (b = (-1 : Int32) ∨ ∃ p : Nat, p < np ∧ b = iI p)) → f_Md_nearest (iI x) b m (fun z2 v => ((-1 : Int32) = z2 → K r12 sh v) ∧ (¬ (-1 : Int32) = z2 → False)) := by
    intro q
    have hk := hK r12 sh m hR (mdM.rf m)
    unfold f_Md_nearest
    refine md_in (lo := 0) (hi := 7) (fun a1 a2 => k_f (by decide) (k_c (fun hb => absurd ⟨⟨a1, a2⟩, Or.inl hb⟩ q) (fun hb => ?_))) (fun _ => k_t rfl (k_q rfl hk)) ⟨x1, x2⟩ (by omega) (by omega)
    exact md_isPiece hm hnp (fun p hp hc => absurd ⟨⟨a1, a2⟩, Or.inr ⟨p, hp, hc⟩⟩ q) (fun _ => k_t rfl (k_q rfl hk))
  -- the way that both go
  have go : (0 ≤ x ∧ x ≤ 7) → (b = (-1 : Int32) ∨ ∃ p : Nat, p < np ∧ b = iI p) → f_PV_nearest_22 o0 r3 mo he (fun z r' o' => f_Md_nearest (iI x) b m (fun z2 v => (z = z2 → K r' o' v) ∧ (¬ z = z2 → False))) 0 0 (iI x) b r12 sh := by
    intro hx hb
    obtain ⟨sd, rfl⟩ : ∃ k : Nat, x = k := ⟨x.toNat, by omega⟩
    unfold f_PV_nearest_22
    refine ⟨by decide, by decide, sh_ask (A := gA m 1) hnp hnp1 hR hok hgm t4 hH t6 t3 (by omega) (fun lo hi r' o' hTD hSA _ _ _ => ⟨by decide, by decide, ?_⟩)⟩
    obtain ⟨u, d1, d2, d3, d4, d5, d6, drun⟩ := md_findMakers (m := m) (A := gA m 1) hnp hnp1 hok hm rfl hgA t5 (by omega) (show sd < 8 by omega) hTD
    have hA1 : gA u 1 = gA m 1 := d1.2.2.1 1 (by omega)
    have hu0 : gI u 0 = iI np := by rw [d1.1 0 (by decide)]; exact hm
    have hcl := cF_le (fun k => FT lo hi (bxs n np k)) (TT (szN n) np 0)
    have hto : ∀ i, i < np → okW (gA mo 5 i) := fun i hi => by rw [(hW i (by omega)).2]; exact (hW i (by omega)).1
    have hds : ∀ k, dS (shp n np k) (gA mo 5) np = dS (shp n np k) (fun i => gA u 1 (20 + i)) np := fun k => dS_congr np (fun _ _ => rfl) (fun j hj => by show _ = gA u 1 (20 + j); rw [hA1]; exact (hW j (by omega)).2)
    have hdle : ∀ k, dS (shp n np k) (gA mo 5) np ≤ 55 := fun k => by
      have := dS_le np (shp_ok hok k) hto
      omega
    have md23 : ∀ Q : Int32 → Ob → Prop, ((∀ k, k < TT (szN n) np 0 → ¬ FT lo hi (bxs n np k)) → Q (-1) u) → (∀ bb, BE (fun k => FT lo hi (bxs n np k)) (fun k => dS (shp n np k) (gA mo 5) np) (TT (szN n) np 0) bb → (b = (-1 : Int32) → Q (iI ((dS (shp n np bb) (gA mo 5) np : Nat) : Int)) u) ∧ (∀ p : Nat, p < np → b = iI p → Q (shp n np bb p) u)) → f_Md_nearest (iI (sd : Int)) b m Q := by
      intro Q h1 h2
      have h23 : f_Md_nearest_23 Q (iI (sd : Int)) b m := by
        unfold f_Md_nearest_23
        refine drun _ (b_eq (b := 0) (fun q => h1 (cF_zero.mp (by omega))) (fun q => ?_))
        obtain ⟨ks, k1, k2, -⟩ := cF_find (fun k => FT lo hi (bxs n np k)) (i := 0) (TT (szN n) np 0) (by omega)
        refine md_nearest41 (P := fun k => FT lo hi (bxs n np k)) hnp hok T0.2 hu0 d2 (fun i hi => by rw [hA1]; exact (hW i (by omega)).1) d3 d4 ⟨ks, k1, k2⟩ (fun bb hbb => ?_)
        have hbb' : BE (fun k => FT lo hi (bxs n np k)) (fun k => dS (shp n np k) (gA mo 5) np) (TT (szN n) np 0) bb := by
          have e : (fun k => dS (shp n np k) (gA mo 5) np) = (fun k => dS (shp n np k) (fun i => gA u 1 (20 + i)) np) := funext hds
          rw [e]; exact hbb
        obtain ⟨g1, g2⟩ := h2 bb hbb'
        unfold f_Md_nearest_41
        rw [d2, ← hds bb]
        refine k_t (Int32.le_refl _) (k_c (fun hb1 => g1 hb1) (fun hb1 => ?_))
        rcases hb with hb | ⟨p, hp, hb⟩
        · exact absurd hb hb1
        · have hbk := hbb.1
          have e5 : (5 : Int32) * iI (bb : Int) + b = iI ((5 * bb + p : Nat) : Int) := by
            rw [hb, show (5 : Int32) = iI 5 from rfl, iI_mul, iI_add]; congr 1
          rw [e5, cl_nat (by omega), d3 bb hbk p hp]
          exact ⟨v_nat (by omega) (by decide), k_n (g2 p hp hb)⟩
      unfold f_Md_nearest
      refine md_in (lo := 0) (hi := 7) (fun _ _ => k_f (by decide) (k_c (fun _ => h23) (fun hb1 => ?_))) (fun q => by omega) (by omega) (by omega) (by omega)
      rcases hb with hb | ⟨p, hp, hb⟩
      · exact absurd hb hb1
      · exact md_isPiece hm hnp (fun _ _ _ => k_f (by decide) h23) (fun q => absurd hb (q p hp))
    refine sh_nearestFit hnp hSA (fun tn ht => hTD.bd ht) hto (fun q => ?_) (fun bb hbb => ?_)
    · exact k_t rfl ⟨by decide, by decide, md23 _ (fun _ => k_q rfl (hK r' o' u hSA.R d1)) (fun bb hbb => absurd hbb.2.1 (q bb hbb.1))⟩
    · have hbk := hbb.1
      refine k_f (fun q => ?_) ?_
      · have := (iI_eq (a := (bb : Int)) (b := -1) (by omega) (by omega)).mp (by rw [q]; decide)
        omega
      · refine k_c (fun hb1 => ⟨by decide, by decide, sh_distance hnp hSA.1 hbk hto ⟨by decide, by decide, ?_⟩⟩) (fun hb1 => ?_)
        · refine md23 _ (fun q => absurd hbb.2.1 (q bb hbk)) (fun b2 hb2 => ⟨fun _ => k_q (by rw [hbb.uniq hb2]) (hK r' o' u hSA.R d1), fun p hp hb3 => ?_⟩)
          have := (iI_eq (a := (p : Int)) (b := -1) (by omega) (by omega)).mp (by rw [← hb3, hb1]; decide)
          omega
        · rcases hb with hb | ⟨p, hp, hb⟩
          · exact absurd hb hb1
          · rw [hb]
            refine ⟨by decide, by decide, sh_widthIn hnp hSA.1 hbk hp ⟨by decide, by decide, ?_⟩⟩
            rw [← hb]
            refine md23 _ (fun q => absurd hbb.2.1 (q bb hbk)) (fun b2 hb2 => ⟨fun q => absurd q hb1, fun p' hp' hb3 => k_q ?_ (hK r' o' u hSA.R d1)⟩)
            have hpp : p = p' := by
              have := (iI_eq (a := (p : Int)) (b := (p' : Int)) (by omega) (by omega)).mp (hb.symm.trans hb3)
              omega
            rw [hbb.uniq hb2, hpp]
  unfold f_PV_nearest
  refine pv_isSound ⟨x1, x2⟩ (fun a1 a2 => k_f (by decide) (k_c (fun hb => go ⟨a1, a2⟩ (Or.inl hb)) (fun hb => ?_))) (fun q => k_t rfl (no (fun h => by omega)))
  refine pv_isPiece h0 hnp (fun p hp hc => k_f (by decide) (go ⟨a1, a2⟩ (Or.inr ⟨p, hp, hc⟩))) (fun q => k_t rfl (no (fun h => ?_)))
  rcases h.2 with h2 | ⟨p, hp, hc⟩
  · exact hb h2
  · exact q p hp hc
end OPN
