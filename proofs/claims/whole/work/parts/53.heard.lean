-- what was told of a sound up to a time
def mt (A : Nat → Int32) (sd tn i : Nat) : Prop := A (100 + 4 * i) = iI sd ∧ A (101 + 4 * i) = iI tn
def TD (A : Nat → Int32) (lk sd : Nat) (lo hi : Nat → Int) : Prop := ∀ tn : Nat, tn < 5 → ((∀ i : Nat, i < lk → ¬ mt A sd tn i) ∧ lo tn = 0 ∧ hi tn = -1) ∨ (∃ i : Nat, i < lk ∧ mt A sd tn i ∧ (∀ i' : Nat, i < i' → i' < lk → ¬ mt A sd tn i') ∧ A (102 + 4 * i) = iI (lo tn) ∧ A (103 + 4 * i) = iI (hi tn) ∧ -20 ≤ lo tn ∧ lo tn ≤ hi tn ∧ hi tn ≤ 19)
theorem TD.bd {A : Nat → Int32} {lk sd : Nat} {lo hi : Nat → Int} (h : TD A lk sd lo hi) {tn : Nat} (ht : tn < 5) : (-20 ≤ lo tn ∧ lo tn ≤ 19) ∧ (-20 ≤ hi tn ∧ hi tn ≤ 19) := by
  rcases h tn ht with ⟨-, a, b⟩ | ⟨i, -, -, -, -, -, a, b, c⟩
  · omega
  · omega
theorem TD.cg {A A' : Nat → Int32} {lk sd : Nat} {lo hi : Nat → Int} (h : TD A lk sd lo hi) (a : ∀ i, 100 ≤ i → i < 100 + 4 * lk → A' i = A i) : TD A' lk sd lo hi := by
  have hm : ∀ tn i, i < lk → (mt A' sd tn i ↔ mt A sd tn i) := fun tn i hi => by
    unfold mt
    rw [a _ (by omega) (by omega), a (101 + 4 * i) (by omega) (by omega)]
  intro tn ht
  rcases h tn ht with ⟨h1, h2⟩ | ⟨i, h1, h2, h3, h4, h5, h6⟩
  · exact Or.inl ⟨fun i hi q => h1 i hi ((hm tn i hi).mp q), h2⟩
  · exact Or.inr ⟨i, h1, (hm tn i h1).mpr h2, fun i' i1 i2 q => h3 i' i1 i2 ((hm tn i' i2).mp q), by rw [a _ (by omega) (by omega)]; exact h4, by rw [a _ (by omega) (by omega)]; exact h5, h6⟩
theorem he_fill {he : Ob} {A : Nat → Int32} {lk tm sd : Nat} {o1 o2 : Nat → Int32} (hH : RHe he A tm) (hlk : lk ≤ tm) (htm : tm ≤ 100) (hsd : sd < 8) :
    ∃ (lo hi : Nat → Int) (f6 f7 : Nat → Int32), TD A lk sd lo hi ∧ (∀ tn, tn < 5 → f6 tn = iI (lo tn) ∧ f7 tn = iI (hi tn)) ∧ (∀ Q : (Nat → Int32) → (Nat → Int32) → Prop, Q f6 f7 → f_He_fill (iI sd) (iI lk) he o1 o2 Q) := by
  have l29 : ∀ (f i : Nat) (lo hi : Nat → Int) (a b : Nat → Int32), f + i = lk → TD A i sd lo hi → (∀ tn, tn < 5 → a tn = iI (lo tn) ∧ b tn = iI (hi tn)) →
      ∃ (lo' hi' : Nat → Int) (f6 f7 : Nat → Int32), TD A lk sd lo' hi' ∧ (∀ tn, tn < 5 → f6 tn = iI (lo' tn) ∧ f7 tn = iI (hi' tn)) ∧ (∀ Q : (Nat → Int32) → (Nat → Int32) → Prop, Q f6 f7 → f_He_fill_29 he Q (f + 1) (iI sd) (iI lk) (iI i) a b) := by
    intro f
    induction f with
    | zero =>
      intro i lo hi a b hi' hT hab
      have : i = lk := by omega
      subst this
      refine ⟨lo, hi, a, b, hT, hab, fun Q hQ => ?_⟩
      unfold f_He_fill_29
      exact k_t (Int32.le_refl _) hQ
    | succ f ih =>
      intro i lo hi a b hil hT hab
      obtain ⟨s', t', fr, to, b1, b2, b3, b4, b5, e0, e1, e2, e3, g0, g1, g2⟩ := hH i (by omega)
      have en : iI (i : Int) + (1 : Int32) = iI ((i + 1 : Nat) : Int) := ix_add i 1
      have ey : iI (5 * (s' : Int) + t') - iI (sd : Int) * (5 : Int32) = iI (5 * (s' : Int) + t' - sd * 5) := by
        rw [show (5 : Int32) = iI 5 from rfl, iI_mul, iI_sub]
      by_cases hs : s' = sd
      · subst hs
        have hmt : ∀ tn, tn < 5 → (mt A s' tn i ↔ tn = t') := fun tn htn => by
          unfold mt
          rw [e0, e1]
          constructor
          · rintro ⟨-, q⟩
            have := (iI_eq (by omega) (by omega)).mp q
            omega
          · rintro rfl; exact ⟨rfl, rfl⟩
        obtain ⟨lo', hi', f6, f7, h1, h2, h3⟩ := ih (i + 1) (fun tn => if tn = t' then fr else lo tn) (fun tn => if tn = t' then to else hi tn) (upd a t' (iI fr)) (upd b t' (iI to)) (by omega) (fun tn htn => by
          by_cases ht : tn = t'
          · refine Or.inr ⟨i, by omega, (hmt tn htn).mpr ht, fun i' i1 i2 => by omega, ?_, ?_, ?_⟩
            · show A _ = iI (if tn = t' then fr else lo tn)
              rw [if_pos ht]; exact e2
            · show A _ = iI (if tn = t' then to else hi tn)
              rw [if_pos ht]; exact e3
            · show -20 ≤ (if tn = t' then fr else lo tn) ∧ (if tn = t' then fr else lo tn) ≤ (if tn = t' then to else hi tn) ∧ (if tn = t' then to else hi tn) ≤ 19
              rw [if_pos ht, if_pos ht]; omega
          · have hno : ¬ mt A s' tn i := fun q => ht ((hmt tn htn).mp q)
            show ((∀ i_1 : Nat, i_1 < i + 1 → ¬ mt A s' tn i_1) ∧ (if tn = t' then fr else lo tn) = 0 ∧ (if tn = t' then to else hi tn) = -1) ∨ (∃ i_1 : Nat, i_1 < i + 1 ∧ mt A s' tn i_1 ∧ (∀ i' : Nat, i_1 < i' → i' < i + 1 → ¬ mt A s' tn i') ∧ A (102 + 4 * i_1) = iI (if tn = t' then fr else lo tn) ∧ A (103 + 4 * i_1) = iI (if tn = t' then to else hi tn) ∧ -20 ≤ (if tn = t' then fr else lo tn) ∧ (if tn = t' then fr else lo tn) ≤ (if tn = t' then to else hi tn) ∧ (if tn = t' then to else hi tn) ≤ 19)
            rw [if_neg ht, if_neg ht]
            rcases hT tn htn with ⟨q1, q2⟩ | ⟨j, q1, q2, q3, q4⟩
            · refine Or.inl ⟨fun j hj => ?_, q2⟩
              by_cases hji : j = i
              · subst hji; exact hno
              · exact q1 j (by omega)
            · refine Or.inr ⟨j, by omega, q2, fun j' j1 j2 => ?_, q4⟩
              by_cases hji : j' = i
              · subst hji; exact hno
              · exact q3 j' j1 (by omega)) (fun tn htn => by
          show upd a t' (iI fr) tn = iI (if tn = t' then fr else lo tn) ∧ upd b t' (iI to) tn = iI (if tn = t' then to else hi tn)
          by_cases ht : tn = t'
          · rw [if_pos ht, if_pos ht, ht, upd_same, upd_same]; exact ⟨rfl, rfl⟩
          · rw [if_neg ht, if_neg ht, upd_ne _ _ _ _ ht, upd_ne _ _ _ _ ht]; exact hab tn htn)
        refine ⟨lo', hi', f6, f7, h1, h2, fun Q hQ => ?_⟩
        unfold f_He_fill_29
        rw [en, cl_nat (by omega), g0, g1, g2, ey]
        refine b_le (fun q => by omega) (fun _ => b_le (a := 100) (fun q => by omega) (fun _ => ⟨v_nat (by omega) (by decide), k_e (v := iI (t' : Int)) (by congr 1; omega) ?_⟩))
        refine b_lt (b := 0) (fun q => by omega) (fun _ => b_le (a := 5) (fun q => by omega) (fun _ => ⟨v_nat (by omega) (by decide), v_nat (by omega) (by decide), v_nat (by omega) (by decide), v_nat (by omega) (by decide), ?_⟩))
        rw [cl_nat (by omega)]
        exact h3 Q hQ
      · have hno : ∀ tn, ¬ mt A sd tn i := fun tn q => by
          have := (iI_eq (by omega) (by omega)).mp (e0.symm.trans q.1)
          omega
        obtain ⟨lo', hi', f6, f7, h1, h2, h3⟩ := ih (i + 1) lo hi a b (by omega) (fun tn htn => by
          rcases hT tn htn with ⟨q1, q2⟩ | ⟨j, q1, q2, q3, q4⟩
          · refine Or.inl ⟨fun j hj => ?_, q2⟩
            by_cases hji : j = i
            · subst hji; exact hno tn
            · exact q1 j (by omega)
          · refine Or.inr ⟨j, by omega, q2, fun j' j1 j2 => ?_, q4⟩
            by_cases hji : j' = i
            · subst hji; exact hno tn
            · exact q3 j' j1 (by omega)) hab
        refine ⟨lo', hi', f6, f7, h1, h2, fun Q hQ => ?_⟩
        unfold f_He_fill_29
        rw [en, cl_nat (by omega), g0, ey]
        refine b_le (fun q => by omega) (fun _ => b_le (a := 100) (fun q => by omega) (fun _ => ⟨v_nat (by omega) (by decide), k_n ?_⟩))
        exact b_lt (b := 0) (fun _ => h3 Q hQ) (fun q1 => b_le (a := 5) (fun _ => h3 Q hQ) (fun q2 => by omega))
  have l3 : ∀ (f j : Nat) (a b : Nat → Int32), f + j = 5 → (∀ tn, tn < j → a tn = 0 ∧ b tn = (-1 : Int32)) → ∃ a' b' : Nat → Int32, (∀ tn, tn < 5 → a' tn = 0 ∧ b' tn = (-1 : Int32)) ∧ (∀ Q : (Nat → Int32) → (Nat → Int32) → Prop, (∃ w, f_He_fill_29 he Q w (iI sd) (iI lk) (0 : Int32) a' b') → f_He_fill_3 he Q (f + 1) (iI sd) (iI lk) (iI j) a b) := by
    intro f
    induction f with
    | zero =>
      intro j a b hj hab
      have : j = 5 := by omega
      subst this
      refine ⟨a, b, hab, fun Q hQ => ?_⟩
      unfold f_He_fill_3
      exact k_t (by decide) hQ
    | succ f ih =>
      intro j a b hj hab
      have en : iI (j : Int) + (1 : Int32) = iI ((j + 1 : Nat) : Int) := ix_add j 1
      obtain ⟨a', b', h1, h2⟩ := ih (j + 1) (upd a j 0) (upd b j (-1)) (by omega) (fun tn ht => by
        by_cases h : tn = j
        · subst h; rw [upd_same, upd_same]; exact ⟨rfl, rfl⟩
        · rw [upd_ne _ _ _ _ h, upd_ne _ _ _ _ h]; exact hab tn (by omega))
      refine ⟨a', b', h1, fun Q hQ => ?_⟩
      unfold f_He_fill_3
      rw [en, cl_nat (by omega)]
      exact b_le (a := 5) (fun q => by omega) (fun _ => ⟨v_nat (by omega) (by decide), v_nat (by omega) (by decide), h2 Q hQ⟩)
  obtain ⟨a', b', h1, h2⟩ := l3 5 0 o1 o2 rfl (fun tn ht => by omega)
  obtain ⟨lo, hi, f6, f7, h3, h4, h5⟩ := l29 lk 0 (fun _ => 0) (fun _ => -1) a' b' rfl (fun tn _ => Or.inl ⟨fun i hi => by omega, rfl, rfl⟩) (fun tn ht => ⟨(h1 tn ht).1, by rw [(h1 tn ht).2]; decide⟩)
  exact ⟨lo, hi, f6, f7, h3, h4, fun Q hQ => ⟨6, h2 Q ⟨lk + 1, h5 Q hQ⟩⟩⟩
theorem md_heardOf {u : Ob} {A : Nat → Int32} {lk sd tn : Nat} {lo hi : Nat → Int} {Q : Int32 → Prop} (hA : gA u 1 = A) (a2 : A 2 = iI lk) (hlk : lk ≤ 100) (hsd : sd < 8) (ht : tn < 5) (hT : TD A lk sd lo hi) (h0 : hi tn < lo tn → Q (-1)) (h1 : ∀ i : Nat, lo tn ≤ hi tn → i < 100 → A (102 + 4 * i) = iI (lo tn) → A (103 + 4 * i) = iI (hi tn) → Q (iI ((100 + 4 * i : Nat) : Int))) : f_Md_heardOf (iI sd) (iI tn) u Q := by
  have lp : ∀ f : Nat, f ≤ lk → (∀ i : Nat, f ≤ i → i < lk → ¬ mt A sd tn i) → f_Md_heardOf_9 u Q (f + 1) (iI sd) (iI tn) (iI ((f : Int) - 1)) := by
    intro f
    induction f with
    | zero =>
      intro _ hno
      unfold f_Md_heardOf_9
      refine b_lt (b := 0) (fun _ => h0 ?_) (fun q => by omega)
      rcases hT tn ht with ⟨q1, q2, q3⟩ | ⟨j, q1, q2, q3, q4⟩
      · omega
      · exact absurd q2 (hno j (by omega) q1)
    | succ f ih =>
      intro hf hno
      have em : iI (((f + 1 : Nat) : Int) - 1) = iI (f : Int) := by congr 1; omega
      have e4 : (100 : Int32) + (4 : Int32) * iI (f : Int) = iI ((100 + 4 * f : Nat) : Int) := ix_lin 100 4 f
      have e41 : iI ((100 + 4 * f : Nat) : Int) + (1 : Int32) = iI ((101 + 4 * f : Nat) : Int) := by
        rw [show 101 + 4 * f = (100 + 4 * f) + 1 by omega]; exact ix_add _ 1
      have ed : iI (f : Int) + (-1 : Int32) = iI ((f : Int) - 1) := by rw [show (-1 : Int32) = iI (-1) by decide, iI_add]; rfl
      have down : ¬ mt A sd tn f → f_Md_heardOf_9 u Q (f + 1) (iI sd) (iI tn) (iI ((f : Int) - 1)) := fun hq => ih (by omega) (fun i i1 i2 => by
        by_cases hif : i = f
        · subst hif; exact hq
        · exact hno i (by omega) i2)
      unfold f_Md_heardOf_9
      rw [em, hA, e4, e41, ed, cl_nat (by omega)]
      refine b_lt (b := 0) (fun q => by omega) (fun _ => ⟨v_nat (by omega) (by decide), k_n (k_c (fun q1 => k_n ⟨v_nat (by omega) (by decide), ?_⟩) (fun q1 => down (fun q => q1 q.1)))⟩)
      rw [cl_nat (by omega)]
      refine k_c (fun q2 => ?_) (fun q2 => down (fun q => q2 q.2))
      rcases hT tn ht with ⟨p1, p2, p3⟩ | ⟨j, p1, p2, p3, p4, p5, p6, p7, p8⟩
      · exact absurd ⟨q1, q2⟩ (p1 f (by omega))
      · have hjf : j = f := by
          rcases Nat.lt_trichotomy j f with h | h | h
          · exact absurd ⟨q1, q2⟩ (p3 f h (by omega))
          · exact h
          · exact absurd p2 (hno j (by omega) p1)
        subst hjf
        exact h1 j p7 (by omega) p4 p5
  unfold f_Md_heardOf
  have e1 : iI (lk : Int) - (1 : Int32) = iI ((lk : Int) - 1) := iI_sub _ 1
  rw [hA, a2, e1]
  exact ⟨lk + 1, lp lk (Nat.le_refl _) (fun i i1 i2 => by omega)⟩
